theorem vb {x : Int32} {N : Nat} (z : Int32) (hz : z.toInt = (N : Int)) (h0 : 0 ≤ x) (h1 : x < z) : vp_in x N := by
  rw [vp_in_iff, ← hz]
  exact ⟨by simpa using Int32.le_iff_toInt_le.mp h0, Int32.lt_iff_toInt_lt.mp h1⟩
theorem ql8 (N : Nat → Nat) : Int32.ofNat (qLen N 8) = 6912 := rfl
theorem ql39 (N : Nat → Nat) : Int32.ofNat (qLen N 39) = 8 := rfl
theorem ql44 (N : Nat → Nat) : Int32.ofNat (qLen N 44) = 96 := rfl
theorem ql45 (N : Nat → Nat) : Int32.ofNat (qLen N 45) = 24 := rfl
theorem ql60 (N : Nat → Nat) : Int32.ofNat (qLen N 60) = 72 := rfl
theorem ql61 (N : Nat → Nat) : Int32.ofNat (qLen N 61) = 24 := rfl
theorem qJ_id {T : qT} {cs : qC} {Q : qP} {pc : Nat} {ls : List (Nat × Value)} {st : List Value} {uc us : Nat} {M : qM} (h : qJ T cs Q pc ls st uc us M) : qJ T cs Q pc ls st uc us M := h
theorem tcn (x : Int32) : x.toNatClampNeg = x.toInt.toNat := rfl
theorem i0 {x : Int32} (h0 : 0 ≤ x) : 0 ≤ x.toInt := by simpa using Int32.le_iff_toInt_le.mp h0
theorem tn1 {k : Int32} (h0 : 0 ≤ k) (h1 : k < 1000000000) : (k + 1).toNatClampNeg = k.toNatClampNeg + 1 := by
  obtain ⟨j, hj, rfl⟩ := nI_of (x := k) (by grind)
  have h2 : nI j < nI 1000000000 := h1
  rw [nI_ltI hj (by decide)] at h2
  rw [nI_1, nI_clamp (by omega), nI_clamp (by omega)]
theorem kc_m999 : Int32.ofInt (-999) = -999 := by decide
theorem kc_m200 : Int32.ofInt (-200) = -200 := by decide
theorem kc_m20 : Int32.ofInt (-20) = -20 := by decide
theorem kc_m14 : Int32.ofInt (-14) = -14 := by decide
theorem kc_m13 : Int32.ofInt (-13) = -13 := by decide
theorem kc_m12 : Int32.ofInt (-12) = -12 := by decide
theorem kc_m11 : Int32.ofInt (-11) = -11 := by decide
theorem kc_m4 : Int32.ofInt (-4) = -4 := by decide
theorem kc_m3 : Int32.ofInt (-3) = -3 := by decide
theorem kc_m2 : Int32.ofInt (-2) = -2 := by decide
theorem kc_m1 : Int32.ofInt (-1) = -1 := by decide
theorem kc_0 : Int32.ofInt 0 = 0 := by decide
theorem kc_1 : Int32.ofInt 1 = 1 := by decide
theorem kc_2 : Int32.ofInt 2 = 2 := by decide
theorem kc_3 : Int32.ofInt 3 = 3 := by decide
theorem kc_4 : Int32.ofInt 4 = 4 := by decide
theorem kc_5 : Int32.ofInt 5 = 5 := by decide
theorem kc_6 : Int32.ofInt 6 = 6 := by decide
theorem kc_7 : Int32.ofInt 7 = 7 := by decide
theorem kc_8 : Int32.ofInt 8 = 8 := by decide
theorem kc_9 : Int32.ofInt 9 = 9 := by decide
theorem kc_10 : Int32.ofInt 10 = 10 := by decide
theorem kc_11 : Int32.ofInt 11 = 11 := by decide
theorem kc_12 : Int32.ofInt 12 = 12 := by decide
theorem kc_15 : Int32.ofInt 15 = 15 := by decide
theorem kc_16 : Int32.ofInt 16 = 16 := by decide
theorem kc_20 : Int32.ofInt 20 = 20 := by decide
theorem kc_24 : Int32.ofInt 24 = 24 := by decide
theorem kc_26 : Int32.ofInt 26 = 26 := by decide
theorem kc_27 : Int32.ofInt 27 = 27 := by decide
theorem kc_32 : Int32.ofInt 32 = 32 := by decide
theorem kc_35 : Int32.ofInt 35 = 35 := by decide
theorem kc_40 : Int32.ofInt 40 = 40 := by decide
theorem kc_41 : Int32.ofInt 41 = 41 := by decide
theorem kc_45 : Int32.ofInt 45 = 45 := by decide
theorem kc_46 : Int32.ofInt 46 = 46 := by decide
theorem kc_60 : Int32.ofInt 60 = 60 := by decide
theorem kc_62 : Int32.ofInt 62 = 62 := by decide
theorem kc_63 : Int32.ofInt 63 = 63 := by decide
theorem kc_72 : Int32.ofInt 72 = 72 := by decide
theorem kc_91 : Int32.ofInt 91 = 91 := by decide
theorem kc_93 : Int32.ofInt 93 = 93 := by decide
theorem kc_95 : Int32.ofInt 95 = 95 := by decide
theorem kc_96 : Int32.ofInt 96 = 96 := by decide
theorem kc_97 : Int32.ofInt 97 = 97 := by decide
theorem kc_122 : Int32.ofInt 122 = 122 := by decide
theorem kc_124 : Int32.ofInt 124 = 124 := by decide
theorem kc_127 : Int32.ofInt 127 = 127 := by decide
theorem kc_160 : Int32.ofInt 160 = 160 := by decide
theorem kc_200 : Int32.ofInt 200 = 200 := by decide
theorem kc_255 : Int32.ofInt 255 = 255 := by decide
theorem kc_999 : Int32.ofInt 999 = 999 := by decide
theorem kc_1600 : Int32.ofInt 1600 = 1600 := by decide
theorem kc_4000 : Int32.ofInt 4000 = 4000 := by decide
theorem kc_6912 : Int32.ofInt 6912 = 6912 := by decide
theorem qQ_id {Q : qP} {v : Option Value} {M : qM} (h : Q v M) : Q v M := h
theorem c_X6_has {d z : Nat} {N : Nat → Nat} {I : Nat → Nat → Int32} {L : Nat → Nat → Int64} {R : Nat → Nat → Option Nat} {Q : qP} {s : Int32} (hn : 0 ≤ I 3 2 ∧ I 3 2 ≤ 12) (h : ∀ v : Int32, (v = if 0 ≤ s ∧ s < I 3 2 then 1 else 0) → Q (some (.int v)) (z, N, I, L, R)) : qWP (d + 1) 79 [.ref 3, .int s] (z, N, I, L, R) Q := by
  refine qWP_of m_X6_has rfl rfl [(0, .ref 3), (1, .int s)] rfl ?_
  refine qJ_run (qWP_mono _) [] 400 ?_
  refine ⟨fun c1 => ?_, fun c1 => ?_⟩
  · first | exact h _ (by clear h; grind [q2, ql8, ql39, ql44, ql45, ql60, ql61]) | exact ⟨Or.inl rfl, h _ (by clear h; grind [q2, ql8, ql39, ql44, ql45, ql60, ql61])⟩ | exact ⟨Or.inr rfl, h _ (by clear h; grind [q2, ql8, ql39, ql44, ql45, ql60, ql61])⟩ | exact ⟨by grind, h _ (by clear h; grind [q2, ql8, ql39, ql44, ql45, ql60, ql61])⟩
  · refine ⟨fun c2 => ?_, fun c2 => ?_⟩
    · first | exact h _ (by clear h; grind [q2, ql8, ql39, ql44, ql45, ql60, ql61]) | exact ⟨Or.inl rfl, h _ (by clear h; grind [q2, ql8, ql39, ql44, ql45, ql60, ql61])⟩ | exact ⟨Or.inr rfl, h _ (by clear h; grind [q2, ql8, ql39, ql44, ql45, ql60, ql61])⟩ | exact ⟨by grind, h _ (by clear h; grind [q2, ql8, ql39, ql44, ql45, ql60, ql61])⟩
    · refine ⟨fun c3 => ?_, fun c3 => ?_⟩
      · first | exact h _ (by clear h; grind [q2, ql8, ql39, ql44, ql45, ql60, ql61]) | exact ⟨Or.inl rfl, h _ (by clear h; grind [q2, ql8, ql39, ql44, ql45, ql60, ql61])⟩ | exact ⟨Or.inr rfl, h _ (by clear h; grind [q2, ql8, ql39, ql44, ql45, ql60, ql61])⟩ | exact ⟨by grind, h _ (by clear h; grind [q2, ql8, ql39, ql44, ql45, ql60, ql61])⟩
      · first | exact h _ (by clear h; grind [q2, ql8, ql39, ql44, ql45, ql60, ql61]) | exact ⟨Or.inl rfl, h _ (by clear h; grind [q2, ql8, ql39, ql44, ql45, ql60, ql61])⟩ | exact ⟨Or.inr rfl, h _ (by clear h; grind [q2, ql8, ql39, ql44, ql45, ql60, ql61])⟩ | exact ⟨by grind, h _ (by clear h; grind [q2, ql8, ql39, ql44, ql45, ql60, ql61])⟩
theorem c_X6_hasLine {d z : Nat} {N : Nat → Nat} {I : Nat → Nat → Int32} {L : Nat → Nat → Int64} {R : Nat → Nat → Option Nat} {Q : qP} {s : Int32} {l : Int32} (hn : 0 ≤ I 3 2 ∧ I 3 2 ≤ 12) (h : ∀ v : Int32, (v = if (0 ≤ s ∧ s < I 3 2) ∧ 0 ≤ l ∧ l < I 4 s.toNatClampNeg then 1 else 0) → Q (some (.int v)) (z, N, I, L, R)) : qWP (d + 2) 80 [.ref 3, .int s, .int l] (z, N, I, L, R) Q := by
  refine qWP_of m_X6_hasLine rfl rfl [(0, .ref 3), (1, .int s), (2, .int l)] rfl ?_
  refine qJ_run (qWP_mono _) [] 400 ?_
  refine ⟨⟨Nat.le_refl _, Nat.le_refl _⟩, ?_⟩
  refine c_X6_has hn fun v hv => ?_
  refine ⟨fun c1 => ?_, fun c1 => ?_⟩
  · first | exact h _ (by clear h; grind [q2, ql8, ql39, ql44, ql45, ql60, ql61]) | exact ⟨Or.inl rfl, h _ (by clear h; grind [q2, ql8, ql39, ql44, ql45, ql60, ql61])⟩ | exact ⟨Or.inr rfl, h _ (by clear h; grind [q2, ql8, ql39, ql44, ql45, ql60, ql61])⟩ | exact ⟨by grind, h _ (by clear h; grind [q2, ql8, ql39, ql44, ql45, ql60, ql61])⟩
  · refine ⟨fun c2 => ?_, fun c2 => ?_⟩
    · first | exact h _ (by clear h; grind [q2, ql8, ql39, ql44, ql45, ql60, ql61]) | exact ⟨Or.inl rfl, h _ (by clear h; grind [q2, ql8, ql39, ql44, ql45, ql60, ql61])⟩ | exact ⟨Or.inr rfl, h _ (by clear h; grind [q2, ql8, ql39, ql44, ql45, ql60, ql61])⟩ | exact ⟨by grind, h _ (by clear h; grind [q2, ql8, ql39, ql44, ql45, ql60, ql61])⟩
    · refine ⟨?_, ?_⟩
      · exact vb (N := 12) 12 (by decide) (by clear h; grind [q2, ql8, ql39, ql44, ql45, ql60, ql61]) (by clear h; grind [q2, ql8, ql39, ql44, ql45, ql60, ql61])
      refine ⟨fun c3 => ?_, fun c3 => ?_⟩
      · first | exact h _ (by clear h; grind [q2, ql8, ql39, ql44, ql45, ql60, ql61]) | exact ⟨Or.inl rfl, h _ (by clear h; grind [q2, ql8, ql39, ql44, ql45, ql60, ql61])⟩ | exact ⟨Or.inr rfl, h _ (by clear h; grind [q2, ql8, ql39, ql44, ql45, ql60, ql61])⟩ | exact ⟨by grind, h _ (by clear h; grind [q2, ql8, ql39, ql44, ql45, ql60, ql61])⟩
      · first | exact h _ (by clear h; grind [q2, ql8, ql39, ql44, ql45, ql60, ql61]) | exact ⟨Or.inl rfl, h _ (by clear h; grind [q2, ql8, ql39, ql44, ql45, ql60, ql61])⟩ | exact ⟨Or.inr rfl, h _ (by clear h; grind [q2, ql8, ql39, ql44, ql45, ql60, ql61])⟩ | exact ⟨by grind, h _ (by clear h; grind [q2, ql8, ql39, ql44, ql45, ql60, ql61])⟩
theorem c_X6_hasPlace {d z : Nat} {N : Nat → Nat} {I : Nat → Nat → Int32} {L : Nat → Nat → Int64} {R : Nat → Nat → Option Nat} {Q : qP} {s : Int32} {l : Int32} {p : Int32} (hn : 0 ≤ I 3 2 ∧ I 3 2 ≤ 12) (h : ∀ v : Int32, (v = if ((0 ≤ s ∧ s < I 3 2) ∧ 0 ≤ l ∧ l < I 4 s.toNatClampNeg) ∧ 0 ≤ p ∧ p < I 5 s.toNatClampNeg then 1 else 0) → Q (some (.int v)) (z, N, I, L, R)) : qWP (d + 3) 81 [.ref 3, .int s, .int l, .int p] (z, N, I, L, R) Q := by
  refine qWP_of m_X6_hasPlace rfl rfl [(0, .ref 3), (1, .int s), (2, .int l), (3, .int p)] rfl ?_
  refine qJ_run (qWP_mono _) [] 400 ?_
  refine ⟨⟨Nat.le_refl _, Nat.le_refl _⟩, ?_⟩
  refine c_X6_hasLine hn fun v hv => ?_
  refine ⟨fun c1 => ?_, fun c1 => ?_⟩
  · first | exact h _ (by clear h; grind [q2, ql8, ql39, ql44, ql45, ql60, ql61]) | exact ⟨Or.inl rfl, h _ (by clear h; grind [q2, ql8, ql39, ql44, ql45, ql60, ql61])⟩ | exact ⟨Or.inr rfl, h _ (by clear h; grind [q2, ql8, ql39, ql44, ql45, ql60, ql61])⟩ | exact ⟨by grind, h _ (by clear h; grind [q2, ql8, ql39, ql44, ql45, ql60, ql61])⟩
  · refine ⟨fun c2 => ?_, fun c2 => ?_⟩
    · first | exact h _ (by clear h; grind [q2, ql8, ql39, ql44, ql45, ql60, ql61]) | exact ⟨Or.inl rfl, h _ (by clear h; grind [q2, ql8, ql39, ql44, ql45, ql60, ql61])⟩ | exact ⟨Or.inr rfl, h _ (by clear h; grind [q2, ql8, ql39, ql44, ql45, ql60, ql61])⟩ | exact ⟨by grind, h _ (by clear h; grind [q2, ql8, ql39, ql44, ql45, ql60, ql61])⟩
    · refine ⟨?_, ?_⟩
      · exact vb (N := 12) 12 (by decide) (by clear h; grind [q2, ql8, ql39, ql44, ql45, ql60, ql61]) (by clear h; grind [q2, ql8, ql39, ql44, ql45, ql60, ql61])
      refine ⟨fun c3 => ?_, fun c3 => ?_⟩
      · first | exact h _ (by clear h; grind [q2, ql8, ql39, ql44, ql45, ql60, ql61]) | exact ⟨Or.inl rfl, h _ (by clear h; grind [q2, ql8, ql39, ql44, ql45, ql60, ql61])⟩ | exact ⟨Or.inr rfl, h _ (by clear h; grind [q2, ql8, ql39, ql44, ql45, ql60, ql61])⟩ | exact ⟨by grind, h _ (by clear h; grind [q2, ql8, ql39, ql44, ql45, ql60, ql61])⟩
      · first | exact h _ (by clear h; grind [q2, ql8, ql39, ql44, ql45, ql60, ql61]) | exact ⟨Or.inl rfl, h _ (by clear h; grind [q2, ql8, ql39, ql44, ql45, ql60, ql61])⟩ | exact ⟨Or.inr rfl, h _ (by clear h; grind [q2, ql8, ql39, ql44, ql45, ql60, ql61])⟩ | exact ⟨by grind, h _ (by clear h; grind [q2, ql8, ql39, ql44, ql45, ql60, ql61])⟩
theorem c_X6_size {d z : Nat} {N : Nat → Nat} {I : Nat → Nat → Int32} {L : Nat → Nat → Int64} {R : Nat → Nat → Option Nat} {Q : qP}   (h : ∀ v : Int32, v = I 3 2 → Q (some (.int v)) (z, N, I, L, R)) : qWP (d + 1) 78 [.ref 3] (z, N, I, L, R) Q := by
  refine qWP_of m_X6_size rfl rfl [(0, .ref 3)] rfl ?_
  refine qJ_run (qWP_mono _) [] 400 ?_
  first | exact h _ (by clear h; grind [q2, ql8, ql39, ql44, ql45, ql60, ql61]) | exact ⟨Or.inl rfl, h _ (by clear h; grind [q2, ql8, ql39, ql44, ql45, ql60, ql61])⟩ | exact ⟨Or.inr rfl, h _ (by clear h; grind [q2, ql8, ql39, ql44, ql45, ql60, ql61])⟩ | exact ⟨by grind, h _ (by clear h; grind [q2, ql8, ql39, ql44, ql45, ql60, ql61])⟩
theorem c_X6_linesOf {d z : Nat} {N : Nat → Nat} {I : Nat → Nat → Int32} {L : Nat → Nat → Int64} {R : Nat → Nat → Option Nat} {Q : qP} {s : Int32} (hn : 0 ≤ I 3 2 ∧ I 3 2 ≤ 12) (h : ∀ v : Int32, (v = if 0 ≤ s ∧ s < I 3 2 then I 4 s.toNatClampNeg else 0) → Q (some (.int v)) (z, N, I, L, R)) : qWP (d + 2) 82 [.ref 3, .int s] (z, N, I, L, R) Q := by
  refine qWP_of m_X6_linesOf rfl rfl [(0, .ref 3), (1, .int s)] rfl ?_
  refine qJ_run (qWP_mono _) [] 400 ?_
  refine ⟨⟨Nat.le_refl _, Nat.le_refl _⟩, ?_⟩
  refine c_X6_has hn fun v hv => ?_
  refine ⟨fun c1 => ?_, fun c1 => ?_⟩
  · first | exact h _ (by clear h; grind [q2, ql8, ql39, ql44, ql45, ql60, ql61]) | exact ⟨Or.inl rfl, h _ (by clear h; grind [q2, ql8, ql39, ql44, ql45, ql60, ql61])⟩ | exact ⟨Or.inr rfl, h _ (by clear h; grind [q2, ql8, ql39, ql44, ql45, ql60, ql61])⟩ | exact ⟨by grind, h _ (by clear h; grind [q2, ql8, ql39, ql44, ql45, ql60, ql61])⟩
  · refine ⟨?_, ?_⟩
    · exact vb (N := 12) 12 (by decide) (by clear h; grind [q2, ql8, ql39, ql44, ql45, ql60, ql61]) (by clear h; grind [q2, ql8, ql39, ql44, ql45, ql60, ql61])
    first | exact h _ (by clear h; grind [q2, ql8, ql39, ql44, ql45, ql60, ql61]) | exact ⟨Or.inl rfl, h _ (by clear h; grind [q2, ql8, ql39, ql44, ql45, ql60, ql61])⟩ | exact ⟨Or.inr rfl, h _ (by clear h; grind [q2, ql8, ql39, ql44, ql45, ql60, ql61])⟩ | exact ⟨by grind, h _ (by clear h; grind [q2, ql8, ql39, ql44, ql45, ql60, ql61])⟩
theorem c_X6_placesOf {d z : Nat} {N : Nat → Nat} {I : Nat → Nat → Int32} {L : Nat → Nat → Int64} {R : Nat → Nat → Option Nat} {Q : qP} {s : Int32} (hn : 0 ≤ I 3 2 ∧ I 3 2 ≤ 12) (h : ∀ v : Int32, (v = if 0 ≤ s ∧ s < I 3 2 then I 5 s.toNatClampNeg else 0) → Q (some (.int v)) (z, N, I, L, R)) : qWP (d + 2) 83 [.ref 3, .int s] (z, N, I, L, R) Q := by
  refine qWP_of m_X6_placesOf rfl rfl [(0, .ref 3), (1, .int s)] rfl ?_
  refine qJ_run (qWP_mono _) [] 400 ?_
  refine ⟨⟨Nat.le_refl _, Nat.le_refl _⟩, ?_⟩
  refine c_X6_has hn fun v hv => ?_
  refine ⟨fun c1 => ?_, fun c1 => ?_⟩
  · first | exact h _ (by clear h; grind [q2, ql8, ql39, ql44, ql45, ql60, ql61]) | exact ⟨Or.inl rfl, h _ (by clear h; grind [q2, ql8, ql39, ql44, ql45, ql60, ql61])⟩ | exact ⟨Or.inr rfl, h _ (by clear h; grind [q2, ql8, ql39, ql44, ql45, ql60, ql61])⟩ | exact ⟨by grind, h _ (by clear h; grind [q2, ql8, ql39, ql44, ql45, ql60, ql61])⟩
  · refine ⟨?_, ?_⟩
    · exact vb (N := 12) 12 (by decide) (by clear h; grind [q2, ql8, ql39, ql44, ql45, ql60, ql61]) (by clear h; grind [q2, ql8, ql39, ql44, ql45, ql60, ql61])
    first | exact h _ (by clear h; grind [q2, ql8, ql39, ql44, ql45, ql60, ql61]) | exact ⟨Or.inl rfl, h _ (by clear h; grind [q2, ql8, ql39, ql44, ql45, ql60, ql61])⟩ | exact ⟨Or.inr rfl, h _ (by clear h; grind [q2, ql8, ql39, ql44, ql45, ql60, ql61])⟩ | exact ⟨by grind, h _ (by clear h; grind [q2, ql8, ql39, ql44, ql45, ql60, ql61])⟩
theorem c_X6_put {d z : Nat} {N : Nat → Nat} {I : Nat → Nat → Int32} {L : Nat → Nat → Int64} {R : Nat → Nat → Option Nat} {Q : qP} {l : Int32} {p : Int32} (hn : 0 ≤ I 3 2 ∧ I 3 2 ≤ 12) (h1 : I 3 2 = 12 → Q (some (.int (-4))) (z, N, I, L, R)) (h2 : I 3 2 < 12 → Q (some (.int (I 3 2 + 1 - 1))) (z, N, q2 (q2 (q2 I 4 (I 3 2).toNatClampNeg l) 5 (I 3 2).toNatClampNeg p) 3 2 (I 3 2 + 1), L, R)) : qWP (d + 1) 77 [.ref 3, .int l, .int p] (z, N, I, L, R) Q := by
  refine qWP_of m_X6_put rfl rfl [(0, .ref 3), (1, .int l), (2, .int p)] rfl ?_
  refine qJ_run (qWP_mono _) [] 400 ?_
  refine ⟨fun c1 => ?_, fun c1 => ?_⟩
  · first | exact h1 (by clear h1 h2; grind [q2, ql8, ql39, ql44, ql45, ql60, ql61]) | exact h2 (by clear h1 h2; grind [q2, ql8, ql39, ql44, ql45, ql60, ql61]) | exact absurd hn (by clear h1 h2; grind [q2, ql8, ql39, ql44, ql45, ql60, ql61])
  · refine ⟨fun c2 => ?_, fun c2 => ?_⟩
    · refine ⟨?_, ?_⟩
      · exact vb (N := 12) 12 (by decide) (by clear h1 h2; grind [q2, ql8, ql39, ql44, ql45, ql60, ql61]) (by clear h1 h2; grind [q2, ql8, ql39, ql44, ql45, ql60, ql61])
      refine ⟨?_, ?_⟩
      · exact vb (N := 12) 12 (by decide) (by clear h1 h2; grind [q2, ql8, ql39, ql44, ql45, ql60, ql61]) (by clear h1 h2; grind [q2, ql8, ql39, ql44, ql45, ql60, ql61])
      first | exact h1 (by clear h1 h2; grind [q2, ql8, ql39, ql44, ql45, ql60, ql61]) | exact h2 (by clear h1 h2; grind [q2, ql8, ql39, ql44, ql45, ql60, ql61]) | exact absurd hn (by clear h1 h2; grind [q2, ql8, ql39, ql44, ql45, ql60, ql61])
    · first | exact h1 (by clear h1 h2; grind [q2, ql8, ql39, ql44, ql45, ql60, ql61]) | exact h2 (by clear h1 h2; grind [q2, ql8, ql39, ql44, ql45, ql60, ql61]) | exact absurd hn (by clear h1 h2; grind [q2, ql8, ql39, ql44, ql45, ql60, ql61])
theorem in1_4 (k : Int32) : (0 ≤ k - Int32.ofInt 1 ∧ k - Int32.ofInt 1 < Int32.ofInt 4) ↔ (1 ≤ k ∧ k ≤ 4) := by
  constructor <;> intro h <;> grind
theorem in1_8 (k : Int32) : (0 ≤ k - Int32.ofInt 1 ∧ k - Int32.ofInt 1 < Int32.ofInt 8) ↔ (1 ≤ k ∧ k ≤ 8) := by
  constructor <;> intro h <;> grind
theorem in1_24 (k : Int32) : (0 ≤ k - Int32.ofInt 1 ∧ k - Int32.ofInt 1 < Int32.ofInt 24) ↔ (1 ≤ k ∧ k ≤ 24) := by
  constructor <;> intro h <;> grind
theorem c_X8_size {d z : Nat} {N : Nat → Nat} {I : Nat → Nat → Int32} {L : Nat → Nat → Int64} {R : Nat → Nat → Option Nat} {Q : qP}   (h : ∀ v : Int32, v = I 9 1 → Q (some (.int v)) (z, N, I, L, R)) : qWP (d + 1) 97 [.ref 9] (z, N, I, L, R) Q := by
  refine qWP_of m_X8_size rfl rfl [(0, .ref 9)] rfl ?_
  refine qJ_run (qWP_mono _) [] 400 ?_
  first | exact h _ (by clear h; grind [q2, ql8, ql39, ql44, ql45, ql60, ql61]) | exact ⟨Or.inl rfl, h _ (by clear h; grind [q2, ql8, ql39, ql44, ql45, ql60, ql61])⟩ | exact ⟨Or.inr rfl, h _ (by clear h; grind [q2, ql8, ql39, ql44, ql45, ql60, ql61])⟩ | exact ⟨by grind, h _ (by clear h; grind [q2, ql8, ql39, ql44, ql45, ql60, ql61])⟩
theorem c_X8_clear {d z : Nat} {N : Nat → Nat} {I : Nat → Nat → Int32} {L : Nat → Nat → Int64} {R : Nat → Nat → Option Nat} {Q : qP}  (h : Q none (z, N, q2 I 9 1 0, L, R)) : qWP (d + 1) 96 [.ref 9] (z, N, I, L, R) Q := by
  refine qWP_of m_X8_clear rfl rfl [(0, .ref 9)] rfl ?_
  refine qJ_run (qWP_mono _) [] 400 ?_
  exact h
theorem c_X8_byteAt {d z : Nat} {N : Nat → Nat} {I : Nat → Nat → Int32} {L : Nat → Nat → Int64} {R : Nat → Nat → Option Nat} {Q : qP} {a : Int32} (hn : 0 ≤ I 9 1 ∧ I 9 1 ≤ 200) (h : ∀ v : Int32, (v = if 0 ≤ a ∧ a < I 9 1 then I 10 a.toNatClampNeg &&& 255 else -1) → Q (some (.int v)) (z, N, I, L, R)) : qWP (d + 1) 98 [.ref 9, .int a] (z, N, I, L, R) Q := by
  refine qWP_of m_X8_byteAt rfl rfl [(0, .ref 9), (1, .int a)] rfl ?_
  refine qJ_run (qWP_mono _) [] 400 ?_
  refine ⟨fun c1 => ?_, fun c1 => ?_⟩
  · first | exact h _ (by clear h; grind [q2, ql8, ql39, ql44, ql45, ql60, ql61]) | exact ⟨Or.inl rfl, h _ (by clear h; grind [q2, ql8, ql39, ql44, ql45, ql60, ql61])⟩ | exact ⟨Or.inr rfl, h _ (by clear h; grind [q2, ql8, ql39, ql44, ql45, ql60, ql61])⟩ | exact ⟨by grind, h _ (by clear h; grind [q2, ql8, ql39, ql44, ql45, ql60, ql61])⟩
  · refine ⟨fun c2 => ?_, fun c2 => ?_⟩
    · first | exact h _ (by clear h; grind [q2, ql8, ql39, ql44, ql45, ql60, ql61]) | exact ⟨Or.inl rfl, h _ (by clear h; grind [q2, ql8, ql39, ql44, ql45, ql60, ql61])⟩ | exact ⟨Or.inr rfl, h _ (by clear h; grind [q2, ql8, ql39, ql44, ql45, ql60, ql61])⟩ | exact ⟨by grind, h _ (by clear h; grind [q2, ql8, ql39, ql44, ql45, ql60, ql61])⟩
    · refine ⟨fun c3 => ?_, fun c3 => ?_⟩
      · first | exact h _ (by clear h; grind [q2, ql8, ql39, ql44, ql45, ql60, ql61]) | exact ⟨Or.inl rfl, h _ (by clear h; grind [q2, ql8, ql39, ql44, ql45, ql60, ql61])⟩ | exact ⟨Or.inr rfl, h _ (by clear h; grind [q2, ql8, ql39, ql44, ql45, ql60, ql61])⟩ | exact ⟨by grind, h _ (by clear h; grind [q2, ql8, ql39, ql44, ql45, ql60, ql61])⟩
      · refine ⟨?_, ?_⟩
        · exact vb (N := 200) 200 (by decide) (by clear h; grind [q2, ql8, ql39, ql44, ql45, ql60, ql61]) (by clear h; grind [q2, ql8, ql39, ql44, ql45, ql60, ql61])
        first | exact h _ (by clear h; grind [q2, ql8, ql39, ql44, ql45, ql60, ql61]) | exact ⟨Or.inl rfl, h _ (by clear h; grind [q2, ql8, ql39, ql44, ql45, ql60, ql61])⟩ | exact ⟨Or.inr rfl, h _ (by clear h; grind [q2, ql8, ql39, ql44, ql45, ql60, ql61])⟩ | exact ⟨by grind, h _ (by clear h; grind [q2, ql8, ql39, ql44, ql45, ql60, ql61])⟩
theorem c_X8_letterOf {d z : Nat} {N : Nat → Nat} {I : Nat → Nat → Int32} {L : Nat → Nat → Int64} {R : Nat → Nat → Option Nat} {Q : qP} {b : Int32}  (h : ∀ v : Int32, (v = if 97 ≤ b ∧ b ≤ 122 then b - 97 else -1) → Q (some (.int v)) (z, N, I, L, R)) : qWP (d + 1) 100 [.int b] (z, N, I, L, R) Q := by
  refine qWP_of m_X8_letterOf rfl rfl [(0, .int b)] rfl ?_
  refine qJ_run (qWP_mono _) [] 400 ?_
  refine ⟨fun c1 => ?_, fun c1 => ?_⟩
  · first | exact h _ (by clear h; grind [q2, ql8, ql39, ql44, ql45, ql60, ql61]) | exact ⟨Or.inl rfl, h _ (by clear h; grind [q2, ql8, ql39, ql44, ql45, ql60, ql61])⟩ | exact ⟨Or.inr rfl, h _ (by clear h; grind [q2, ql8, ql39, ql44, ql45, ql60, ql61])⟩ | exact ⟨by grind, h _ (by clear h; grind [q2, ql8, ql39, ql44, ql45, ql60, ql61])⟩
  · refine ⟨fun c2 => ?_, fun c2 => ?_⟩
    · first | exact h _ (by clear h; grind [q2, ql8, ql39, ql44, ql45, ql60, ql61]) | exact ⟨Or.inl rfl, h _ (by clear h; grind [q2, ql8, ql39, ql44, ql45, ql60, ql61])⟩ | exact ⟨Or.inr rfl, h _ (by clear h; grind [q2, ql8, ql39, ql44, ql45, ql60, ql61])⟩ | exact ⟨by grind, h _ (by clear h; grind [q2, ql8, ql39, ql44, ql45, ql60, ql61])⟩
    · first | exact h _ (by clear h; grind [q2, ql8, ql39, ql44, ql45, ql60, ql61]) | exact ⟨Or.inl rfl, h _ (by clear h; grind [q2, ql8, ql39, ql44, ql45, ql60, ql61])⟩ | exact ⟨Or.inr rfl, h _ (by clear h; grind [q2, ql8, ql39, ql44, ql45, ql60, ql61])⟩ | exact ⟨by grind, h _ (by clear h; grind [q2, ql8, ql39, ql44, ql45, ql60, ql61])⟩
theorem c_X5_hands {d z : Nat} {N : Nat → Nat} {I : Nat → Nat → Int32} {L : Nat → Nat → Int64} {R : Nat → Nat → Option Nat} {Q : qP}   (h : ∀ v : Int32, v = I 6 2 → Q (some (.int v)) (z, N, I, L, R)) : qWP (d + 1) 68 [.ref 6] (z, N, I, L, R) Q := by
  refine qWP_of m_X5_hands rfl rfl [(0, .ref 6)] rfl ?_
  refine qJ_run (qWP_mono _) [] 400 ?_
  first | exact h _ (by clear h; grind [q2, ql8, ql39, ql44, ql45, ql60, ql61]) | exact ⟨Or.inl rfl, h _ (by clear h; grind [q2, ql8, ql39, ql44, ql45, ql60, ql61])⟩ | exact ⟨Or.inr rfl, h _ (by clear h; grind [q2, ql8, ql39, ql44, ql45, ql60, ql61])⟩ | exact ⟨by grind, h _ (by clear h; grind [q2, ql8, ql39, ql44, ql45, ql60, ql61])⟩
theorem c_X5_hasHand {d z : Nat} {N : Nat → Nat} {I : Nat → Nat → Int32} {L : Nat → Nat → Int64} {R : Nat → Nat → Option Nat} {Q : qP} {s : Int32} (hn : 0 ≤ I 6 2 ∧ I 6 2 ≤ 6) (h : ∀ v : Int32, (v = if 0 ≤ s ∧ s < I 6 2 then 1 else 0) → Q (some (.int v)) (z, N, I, L, R)) : qWP (d + 1) 69 [.ref 6, .int s] (z, N, I, L, R) Q := by
  refine qWP_of m_X5_hasHand rfl rfl [(0, .ref 6), (1, .int s)] rfl ?_
  refine qJ_run (qWP_mono _) [] 400 ?_
  refine ⟨fun c1 => ?_, fun c1 => ?_⟩
  · first | exact h _ (by clear h; grind [q2, ql8, ql39, ql44, ql45, ql60, ql61]) | exact ⟨Or.inl rfl, h _ (by clear h; grind [q2, ql8, ql39, ql44, ql45, ql60, ql61])⟩ | exact ⟨Or.inr rfl, h _ (by clear h; grind [q2, ql8, ql39, ql44, ql45, ql60, ql61])⟩ | exact ⟨by grind, h _ (by clear h; grind [q2, ql8, ql39, ql44, ql45, ql60, ql61])⟩
  · refine ⟨fun c2 => ?_, fun c2 => ?_⟩
    · first | exact h _ (by clear h; grind [q2, ql8, ql39, ql44, ql45, ql60, ql61]) | exact ⟨Or.inl rfl, h _ (by clear h; grind [q2, ql8, ql39, ql44, ql45, ql60, ql61])⟩ | exact ⟨Or.inr rfl, h _ (by clear h; grind [q2, ql8, ql39, ql44, ql45, ql60, ql61])⟩ | exact ⟨by grind, h _ (by clear h; grind [q2, ql8, ql39, ql44, ql45, ql60, ql61])⟩
    · refine ⟨fun c3 => ?_, fun c3 => ?_⟩
      · first | exact h _ (by clear h; grind [q2, ql8, ql39, ql44, ql45, ql60, ql61]) | exact ⟨Or.inl rfl, h _ (by clear h; grind [q2, ql8, ql39, ql44, ql45, ql60, ql61])⟩ | exact ⟨Or.inr rfl, h _ (by clear h; grind [q2, ql8, ql39, ql44, ql45, ql60, ql61])⟩ | exact ⟨by grind, h _ (by clear h; grind [q2, ql8, ql39, ql44, ql45, ql60, ql61])⟩
      · first | exact h _ (by clear h; grind [q2, ql8, ql39, ql44, ql45, ql60, ql61]) | exact ⟨Or.inl rfl, h _ (by clear h; grind [q2, ql8, ql39, ql44, ql45, ql60, ql61])⟩ | exact ⟨Or.inr rfl, h _ (by clear h; grind [q2, ql8, ql39, ql44, ql45, ql60, ql61])⟩ | exact ⟨by grind, h _ (by clear h; grind [q2, ql8, ql39, ql44, ql45, ql60, ql61])⟩
theorem c_X5_putHand {d z : Nat} {N : Nat → Nat} {I : Nat → Nat → Int32} {L : Nat → Nat → Int64} {R : Nat → Nat → Option Nat} {Q : qP} {r : Int32} (hn : 0 ≤ I 6 2 ∧ I 6 2 ≤ 6) (h1 : I 6 2 = 6 → Q (some (.int (-4))) (z, N, I, L, R)) (h2 : I 6 2 < 6 → Q (some (.int (I 6 2 + 1 - 1))) (z, N, q2 (q2 I 7 (I 6 2).toNatClampNeg r) 6 2 (I 6 2 + 1), L, R)) : qWP (d + 1) 67 [.ref 6, .int r] (z, N, I, L, R) Q := by
  refine qWP_of m_X5_putHand rfl rfl [(0, .ref 6), (1, .int r)] rfl ?_
  refine qJ_run (qWP_mono _) [] 400 ?_
  refine ⟨fun c1 => ?_, fun c1 => ?_⟩
  · first | exact h1 (by clear h1 h2; grind [q2, ql8, ql39, ql44, ql45, ql60, ql61]) | exact h2 (by clear h1 h2; grind [q2, ql8, ql39, ql44, ql45, ql60, ql61]) | exact absurd hn (by clear h1 h2; grind [q2, ql8, ql39, ql44, ql45, ql60, ql61])
  · refine ⟨fun c2 => ?_, fun c2 => ?_⟩
    · refine ⟨?_, ?_⟩
      · exact vb (N := 6) 6 (by decide) (by clear h1 h2; grind [q2, ql8, ql39, ql44, ql45, ql60, ql61]) (by clear h1 h2; grind [q2, ql8, ql39, ql44, ql45, ql60, ql61])
      first | exact h1 (by clear h1 h2; grind [q2, ql8, ql39, ql44, ql45, ql60, ql61]) | exact h2 (by clear h1 h2; grind [q2, ql8, ql39, ql44, ql45, ql60, ql61]) | exact absurd hn (by clear h1 h2; grind [q2, ql8, ql39, ql44, ql45, ql60, ql61])
    · first | exact h1 (by clear h1 h2; grind [q2, ql8, ql39, ql44, ql45, ql60, ql61]) | exact h2 (by clear h1 h2; grind [q2, ql8, ql39, ql44, ql45, ql60, ql61]) | exact absurd hn (by clear h1 h2; grind [q2, ql8, ql39, ql44, ql45, ql60, ql61])
theorem c_X5_index {d z : Nat} {N : Nat → Nat} {I : Nat → Nat → Int32} {L : Nat → Nat → Int64} {R : Nat → Nat → Option Nat} {Q : qP} {a : Int32} {s : Int32} {l : Int32} {p : Int32}  (h : ∀ v : Int32, v = ((a * 12 + s) * 4 + l) * 24 + p → Q (some (.int v)) (z, N, I, L, R)) : qWP (d + 1) 70 [.ref 6, .int a, .int s, .int l, .int p] (z, N, I, L, R) Q := by
  refine qWP_of m_X5_index rfl rfl [(0, .ref 6), (1, .int a), (2, .int s), (3, .int l), (4, .int p)] rfl ?_
  refine qJ_run (qWP_mono _) [] 400 ?_
  first | exact h _ (by clear h; grind [q2, ql8, ql39, ql44, ql45, ql60, ql61]) | exact ⟨Or.inl rfl, h _ (by clear h; grind [q2, ql8, ql39, ql44, ql45, ql60, ql61])⟩ | exact ⟨Or.inr rfl, h _ (by clear h; grind [q2, ql8, ql39, ql44, ql45, ql60, ql61])⟩ | exact ⟨by grind, h _ (by clear h; grind [q2, ql8, ql39, ql44, ql45, ql60, ql61])⟩
theorem c_X5_at {d z : Nat} {N : Nat → Nat} {I : Nat → Nat → Int32} {L : Nat → Nat → Int64} {R : Nat → Nat → Option Nat} {Q : qP} {a : Int32} {s : Int32} {l : Int32} {p : Int32}  (h : ∀ v : Int32, (v = if 0 ≤ ((a * 12 + s) * 4 + l) * 24 + p ∧ ((a * 12 + s) * 4 + l) * 24 + p < 6912 then I 8 (((a * 12 + s) * 4 + l) * 24 + p).toNatClampNeg else 0) → Q (some (.int v)) (z, N, I, L, R)) : qWP (d + 2) 71 [.ref 6, .int a, .int s, .int l, .int p] (z, N, I, L, R) Q := by
  refine qWP_of m_X5_at rfl rfl [(0, .ref 6), (1, .int a), (2, .int s), (3, .int l), (4, .int p)] rfl ?_
  refine qJ_run (qWP_mono _) [] 400 ?_
  refine ⟨⟨Nat.le_refl _, Nat.le_refl _⟩, ?_⟩
  refine c_X5_index fun v hv => ?_
  subst hv
  refine ⟨fun c1 => ?_, fun c1 => ?_⟩
  · first | exact h _ (by clear h; grind [q2, ql8, ql39, ql44, ql45, ql60, ql61]) | exact ⟨Or.inl rfl, h _ (by clear h; grind [q2, ql8, ql39, ql44, ql45, ql60, ql61])⟩ | exact ⟨Or.inr rfl, h _ (by clear h; grind [q2, ql8, ql39, ql44, ql45, ql60, ql61])⟩ | exact ⟨by grind, h _ (by clear h; grind [q2, ql8, ql39, ql44, ql45, ql60, ql61])⟩
  · refine ⟨fun c2 => ?_, fun c2 => ?_⟩
    · first | exact h _ (by clear h; grind [q2, ql8, ql39, ql44, ql45, ql60, ql61]) | exact ⟨Or.inl rfl, h _ (by clear h; grind [q2, ql8, ql39, ql44, ql45, ql60, ql61])⟩ | exact ⟨Or.inr rfl, h _ (by clear h; grind [q2, ql8, ql39, ql44, ql45, ql60, ql61])⟩ | exact ⟨by grind, h _ (by clear h; grind [q2, ql8, ql39, ql44, ql45, ql60, ql61])⟩
    · refine ⟨?_, ?_⟩
      · exact vb (N := 6912) 6912 (by decide) (by clear h; grind [q2, ql8, ql39, ql44, ql45, ql60, ql61]) (by clear h; grind [q2, ql8, ql39, ql44, ql45, ql60, ql61])
      first | exact h _ (by clear h; grind [q2, ql8, ql39, ql44, ql45, ql60, ql61]) | exact ⟨Or.inl rfl, h _ (by clear h; grind [q2, ql8, ql39, ql44, ql45, ql60, ql61])⟩ | exact ⟨Or.inr rfl, h _ (by clear h; grind [q2, ql8, ql39, ql44, ql45, ql60, ql61])⟩ | exact ⟨by grind, h _ (by clear h; grind [q2, ql8, ql39, ql44, ql45, ql60, ql61])⟩
theorem c_X5_put {d z : Nat} {N : Nat → Nat} {I : Nat → Nat → Int32} {L : Nat → Nat → Int64} {R : Nat → Nat → Option Nat} {Q : qP} {a : Int32} {s : Int32} {l : Int32} {p : Int32} {t : Int32} (h1 : 0 ≤ ((a * 12 + s) * 4 + l) * 24 + p → ((a * 12 + s) * 4 + l) * 24 + p < 6912 → Q none (z, N, q2 I 8 (((a * 12 + s) * 4 + l) * 24 + p).toNatClampNeg t, L, R)) (h2 : ¬ (0 ≤ ((a * 12 + s) * 4 + l) * 24 + p ∧ ((a * 12 + s) * 4 + l) * 24 + p < 6912) → Q none (z, N, I, L, R)) : qWP (d + 2) 72 [.ref 6, .int a, .int s, .int l, .int p, .int t] (z, N, I, L, R) Q := by
  refine qWP_of m_X5_put rfl rfl [(0, .ref 6), (1, .int a), (2, .int s), (3, .int l), (4, .int p), (5, .int t)] rfl ?_
  refine qJ_run (qWP_mono _) [] 400 ?_
  refine ⟨⟨Nat.le_refl _, Nat.le_refl _⟩, ?_⟩
  refine c_X5_index fun v hv => ?_
  subst hv
  refine ⟨fun c1 => ?_, fun c1 => ?_⟩
  · first | exact h2 (by clear h1 h2; grind [q2, ql8, ql39, ql44, ql45, ql60, ql61]) | exact h1 (by clear h1 h2; grind [q2, ql8, ql39, ql44, ql45, ql60, ql61]) (by clear h1 h2; grind [q2, ql8, ql39, ql44, ql45, ql60, ql61])
  · refine ⟨fun c2 => ?_, fun c2 => ?_⟩
    · first | exact h2 (by clear h1 h2; grind [q2, ql8, ql39, ql44, ql45, ql60, ql61]) | exact h1 (by clear h1 h2; grind [q2, ql8, ql39, ql44, ql45, ql60, ql61]) (by clear h1 h2; grind [q2, ql8, ql39, ql44, ql45, ql60, ql61])
    · refine ⟨?_, ?_⟩
      · exact vb (N := 6912) 6912 (by decide) (by clear h1 h2; grind [q2, ql8, ql39, ql44, ql45, ql60, ql61]) (by clear h1 h2; grind [q2, ql8, ql39, ql44, ql45, ql60, ql61])
      first | exact h2 (by clear h1 h2; grind [q2, ql8, ql39, ql44, ql45, ql60, ql61]) | exact h1 (by clear h1 h2; grind [q2, ql8, ql39, ql44, ql45, ql60, ql61]) (by clear h1 h2; grind [q2, ql8, ql39, ql44, ql45, ql60, ql61])
theorem c_X1_allowance {d z : Nat} {N : Nat → Nat} {I : Nat → Nat → Int32} {L : Nat → Nat → Int64} {R : Nat → Nat → Option Nat} {Q : qP}   (h : ∀ v : Int32, v = I 43 3 → Q (some (.int v)) (z, N, I, L, R)) : qWP (d + 1) 12 [.ref 43] (z, N, I, L, R) Q := by
  refine qWP_of m_X1_allowance rfl rfl [(0, .ref 43)] rfl ?_
  refine qJ_run (qWP_mono _) [] 400 ?_
  first | exact h _ (by clear h; grind [q2, ql8, ql39, ql44, ql45, ql60, ql61]) | exact ⟨Or.inl rfl, h _ (by clear h; grind [q2, ql8, ql39, ql44, ql45, ql60, ql61])⟩ | exact ⟨Or.inr rfl, h _ (by clear h; grind [q2, ql8, ql39, ql44, ql45, ql60, ql61])⟩ | exact ⟨by grind, h _ (by clear h; grind [q2, ql8, ql39, ql44, ql45, ql60, ql61])⟩
theorem c_X1_mark {d z : Nat} {N : Nat → Nat} {I : Nat → Nat → Int32} {L : Nat → Nat → Int64} {R : Nat → Nat → Option Nat} {Q : qP} {s : Int32} {e : Int32} {l : Int32}  (h : ∀ v : Int32, (v = if 0 ≤ (s * 2 + e) * 4 + l ∧ (s * 2 + e) * 4 + l < 96 then I 44 ((s * 2 + e) * 4 + l).toNatClampNeg else 0) → Q (some (.int v)) (z, N, I, L, R)) : qWP (d + 1) 13 [.ref 43, .int s, .int e, .int l] (z, N, I, L, R) Q := by
  refine qWP_of m_X1_mark rfl rfl [(0, .ref 43), (1, .int s), (2, .int e), (3, .int l)] rfl ?_
  refine qJ_run (qWP_mono _) [] 400 ?_
  refine ⟨fun c1 => ?_, fun c1 => ?_⟩
  · first | exact h _ (by clear h; grind [q2, ql8, ql39, ql44, ql45, ql60, ql61]) | exact ⟨Or.inl rfl, h _ (by clear h; grind [q2, ql8, ql39, ql44, ql45, ql60, ql61])⟩ | exact ⟨Or.inr rfl, h _ (by clear h; grind [q2, ql8, ql39, ql44, ql45, ql60, ql61])⟩ | exact ⟨by grind, h _ (by clear h; grind [q2, ql8, ql39, ql44, ql45, ql60, ql61])⟩
  · refine ⟨fun c2 => ?_, fun c2 => ?_⟩
    · first | exact h _ (by clear h; grind [q2, ql8, ql39, ql44, ql45, ql60, ql61]) | exact ⟨Or.inl rfl, h _ (by clear h; grind [q2, ql8, ql39, ql44, ql45, ql60, ql61])⟩ | exact ⟨Or.inr rfl, h _ (by clear h; grind [q2, ql8, ql39, ql44, ql45, ql60, ql61])⟩ | exact ⟨by grind, h _ (by clear h; grind [q2, ql8, ql39, ql44, ql45, ql60, ql61])⟩
    · refine ⟨?_, ?_⟩
      · exact vb (N := 96) 96 (by decide) (by clear h; grind [q2, ql8, ql39, ql44, ql45, ql60, ql61]) (by clear h; grind [q2, ql8, ql39, ql44, ql45, ql60, ql61])
      first | exact h _ (by clear h; grind [q2, ql8, ql39, ql44, ql45, ql60, ql61]) | exact ⟨Or.inl rfl, h _ (by clear h; grind [q2, ql8, ql39, ql44, ql45, ql60, ql61])⟩ | exact ⟨Or.inr rfl, h _ (by clear h; grind [q2, ql8, ql39, ql44, ql45, ql60, ql61])⟩ | exact ⟨by grind, h _ (by clear h; grind [q2, ql8, ql39, ql44, ql45, ql60, ql61])⟩
theorem c_X1_neighbour {d z : Nat} {N : Nat → Nat} {I : Nat → Nat → Int32} {L : Nat → Nat → Int64} {R : Nat → Nat → Option Nat} {Q : qP} {s : Int32} {e : Int32}  (h : ∀ v : Int32, (v = if 0 ≤ s * 2 + e ∧ s * 2 + e < 24 then I 45 (s * 2 + e).toNatClampNeg else -1) → Q (some (.int v)) (z, N, I, L, R)) : qWP (d + 1) 14 [.ref 43, .int s, .int e] (z, N, I, L, R) Q := by
  refine qWP_of m_X1_neighbour rfl rfl [(0, .ref 43), (1, .int s), (2, .int e)] rfl ?_
  refine qJ_run (qWP_mono _) [] 400 ?_
  refine ⟨fun c1 => ?_, fun c1 => ?_⟩
  · first | exact h _ (by clear h; grind [q2, ql8, ql39, ql44, ql45, ql60, ql61]) | exact ⟨Or.inl rfl, h _ (by clear h; grind [q2, ql8, ql39, ql44, ql45, ql60, ql61])⟩ | exact ⟨Or.inr rfl, h _ (by clear h; grind [q2, ql8, ql39, ql44, ql45, ql60, ql61])⟩ | exact ⟨by grind, h _ (by clear h; grind [q2, ql8, ql39, ql44, ql45, ql60, ql61])⟩
  · refine ⟨fun c2 => ?_, fun c2 => ?_⟩
    · first | exact h _ (by clear h; grind [q2, ql8, ql39, ql44, ql45, ql60, ql61]) | exact ⟨Or.inl rfl, h _ (by clear h; grind [q2, ql8, ql39, ql44, ql45, ql60, ql61])⟩ | exact ⟨Or.inr rfl, h _ (by clear h; grind [q2, ql8, ql39, ql44, ql45, ql60, ql61])⟩ | exact ⟨by grind, h _ (by clear h; grind [q2, ql8, ql39, ql44, ql45, ql60, ql61])⟩
    · refine ⟨?_, ?_⟩
      · exact vb (N := 24) 24 (by decide) (by clear h; grind [q2, ql8, ql39, ql44, ql45, ql60, ql61]) (by clear h; grind [q2, ql8, ql39, ql44, ql45, ql60, ql61])
      first | exact h _ (by clear h; grind [q2, ql8, ql39, ql44, ql45, ql60, ql61]) | exact ⟨Or.inl rfl, h _ (by clear h; grind [q2, ql8, ql39, ql44, ql45, ql60, ql61])⟩ | exact ⟨Or.inr rfl, h _ (by clear h; grind [q2, ql8, ql39, ql44, ql45, ql60, ql61])⟩ | exact ⟨by grind, h _ (by clear h; grind [q2, ql8, ql39, ql44, ql45, ql60, ql61])⟩
theorem c_X1_setNeighbour {d z : Nat} {N : Nat → Nat} {I : Nat → Nat → Int32} {L : Nat → Nat → Int64} {R : Nat → Nat → Option Nat} {Q : qP} {s : Int32} {e : Int32} {w : Int32} (h1 : 0 ≤ s * 2 + e → s * 2 + e < 24 → Q none (z, N, q2 I 45 (s * 2 + e).toNatClampNeg w, L, R)) (h2 : ¬ (0 ≤ s * 2 + e ∧ s * 2 + e < 24) → Q none (z, N, I, L, R)) : qWP (d + 1) 15 [.ref 43, .int s, .int e, .int w] (z, N, I, L, R) Q := by
  refine qWP_of m_X1_setNeighbour rfl rfl [(0, .ref 43), (1, .int s), (2, .int e), (3, .int w)] rfl ?_
  refine qJ_run (qWP_mono _) [] 400 ?_
  refine ⟨fun c1 => ?_, fun c1 => ?_⟩
  · first | exact h2 (by clear h1 h2; grind [q2, ql8, ql39, ql44, ql45, ql60, ql61]) | exact h1 (by clear h1 h2; grind [q2, ql8, ql39, ql44, ql45, ql60, ql61]) (by clear h1 h2; grind [q2, ql8, ql39, ql44, ql45, ql60, ql61])
  · refine ⟨fun c2 => ?_, fun c2 => ?_⟩
    · first | exact h2 (by clear h1 h2; grind [q2, ql8, ql39, ql44, ql45, ql60, ql61]) | exact h1 (by clear h1 h2; grind [q2, ql8, ql39, ql44, ql45, ql60, ql61]) (by clear h1 h2; grind [q2, ql8, ql39, ql44, ql45, ql60, ql61])
    · refine ⟨?_, ?_⟩
      · exact vb (N := 24) 24 (by decide) (by clear h1 h2; grind [q2, ql8, ql39, ql44, ql45, ql60, ql61]) (by clear h1 h2; grind [q2, ql8, ql39, ql44, ql45, ql60, ql61])
      first | exact h2 (by clear h1 h2; grind [q2, ql8, ql39, ql44, ql45, ql60, ql61]) | exact h1 (by clear h1 h2; grind [q2, ql8, ql39, ql44, ql45, ql60, ql61]) (by clear h1 h2; grind [q2, ql8, ql39, ql44, ql45, ql60, ql61])
theorem c_X0_size {d z : Nat} {N : Nat → Nat} {I : Nat → Nat → Int32} {L : Nat → Nat → Int64} {R : Nat → Nat → Option Nat} {Q : qP}   (h : ∀ v : Int32, v = I 46 7 → Q (some (.int v)) (z, N, I, L, R)) : qWP (d + 1) 1 [.ref 46] (z, N, I, L, R) Q := by
  refine qWP_of m_X0_size rfl rfl [(0, .ref 46)] rfl ?_
  refine qJ_run (qWP_mono _) [] 400 ?_
  first | exact h _ (by clear h; grind [q2, ql8, ql39, ql44, ql45, ql60, ql61]) | exact ⟨Or.inl rfl, h _ (by clear h; grind [q2, ql8, ql39, ql44, ql45, ql60, ql61])⟩ | exact ⟨Or.inr rfl, h _ (by clear h; grind [q2, ql8, ql39, ql44, ql45, ql60, ql61])⟩ | exact ⟨by grind, h _ (by clear h; grind [q2, ql8, ql39, ql44, ql45, ql60, ql61])⟩
theorem c_X0_limit {d z : Nat} {N : Nat → Nat} {I : Nat → Nat → Int32} {L : Nat → Nat → Int64} {R : Nat → Nat → Option Nat} {Q : qP} {s : Int32} {a : Int32} {b : Int32} (h1 : 0 ≤ s → s < 12 → Q none (z, N, q2 (q2 I 47 s.toNatClampNeg a) 48 s.toNatClampNeg b, L, R)) (h2 : ¬ (0 ≤ s ∧ s < 12) → Q none (z, N, I, L, R)) : qWP (d + 1) 2 [.ref 46, .int s, .int a, .int b] (z, N, I, L, R) Q := by
  refine qWP_of m_X0_limit rfl rfl [(0, .ref 46), (1, .int s), (2, .int a), (3, .int b)] rfl ?_
  refine qJ_run (qWP_mono _) [] 400 ?_
  refine ⟨fun c1 => ?_, fun c1 => ?_⟩
  · first | exact h2 (by clear h1 h2; grind [q2, ql8, ql39, ql44, ql45, ql60, ql61]) | exact h1 (by clear h1 h2; grind [q2, ql8, ql39, ql44, ql45, ql60, ql61]) (by clear h1 h2; grind [q2, ql8, ql39, ql44, ql45, ql60, ql61])
  · refine ⟨fun c2 => ?_, fun c2 => ?_⟩
    · first | exact h2 (by clear h1 h2; grind [q2, ql8, ql39, ql44, ql45, ql60, ql61]) | exact h1 (by clear h1 h2; grind [q2, ql8, ql39, ql44, ql45, ql60, ql61]) (by clear h1 h2; grind [q2, ql8, ql39, ql44, ql45, ql60, ql61])
    · refine ⟨?_, ?_⟩
      · exact vb (N := 12) 12 (by decide) (by clear h1 h2; grind [q2, ql8, ql39, ql44, ql45, ql60, ql61]) (by clear h1 h2; grind [q2, ql8, ql39, ql44, ql45, ql60, ql61])
      refine ⟨?_, ?_⟩
      · exact vb (N := 12) 12 (by decide) (by clear h1 h2; grind [q2, ql8, ql39, ql44, ql45, ql60, ql61]) (by clear h1 h2; grind [q2, ql8, ql39, ql44, ql45, ql60, ql61])
      first | exact h2 (by clear h1 h2; grind [q2, ql8, ql39, ql44, ql45, ql60, ql61]) | exact h1 (by clear h1 h2; grind [q2, ql8, ql39, ql44, ql45, ql60, ql61]) (by clear h1 h2; grind [q2, ql8, ql39, ql44, ql45, ql60, ql61])
theorem c_X0_drop {d z : Nat} {N : Nat → Nat} {I : Nat → Nat → Int32} {L : Nat → Nat → Int64} {R : Nat → Nat → Option Nat} {Q : qP}  (hn : 0 ≤ I 46 7 ∧ I 46 7 ≤ 20) (h1 : I 46 7 = 0 → Q (some (.int (-3))) (z, N, I, L, R)) (h2 : 0 < I 46 7 → Q (some (.int (I 46 7 - 1))) (z, N, q2 I 46 7 (I 46 7 - 1), L, R)) : qWP (d + 1) 4 [.ref 46] (z, N, I, L, R) Q := by
  refine qWP_of m_X0_drop rfl rfl [(0, .ref 46)] rfl ?_
  refine qJ_run (qWP_mono _) [] 400 ?_
  refine ⟨fun c1 => ?_, fun c1 => ?_⟩
  · first | exact h1 (by clear h1 h2; grind [q2, ql8, ql39, ql44, ql45, ql60, ql61]) | exact h2 (by clear h1 h2; grind [q2, ql8, ql39, ql44, ql45, ql60, ql61])
  · first | exact h1 (by clear h1 h2; grind [q2, ql8, ql39, ql44, ql45, ql60, ql61]) | exact h2 (by clear h1 h2; grind [q2, ql8, ql39, ql44, ql45, ql60, ql61])
theorem c_X0_earliest {d z : Nat} {N : Nat → Nat} {I : Nat → Nat → Int32} {L : Nat → Nat → Int64} {R : Nat → Nat → Option Nat} {Q : qP} {s : Int32}  (h : ∀ v : Int32, (v = if 0 ≤ s ∧ s < 12 then I 49 s.toNatClampNeg else -999) → Q (some (.int v)) (z, N, I, L, R)) : qWP (d + 1) 8 [.ref 46, .int s] (z, N, I, L, R) Q := by
  refine qWP_of m_X0_earliest rfl rfl [(0, .ref 46), (1, .int s)] rfl ?_
  refine qJ_run (qWP_mono _) [] 400 ?_
  refine ⟨fun c1 => ?_, fun c1 => ?_⟩
  · first | exact h _ (by clear h; grind [q2, ql8, ql39, ql44, ql45, ql60, ql61]) | exact ⟨Or.inl rfl, h _ (by clear h; grind [q2, ql8, ql39, ql44, ql45, ql60, ql61])⟩ | exact ⟨Or.inr rfl, h _ (by clear h; grind [q2, ql8, ql39, ql44, ql45, ql60, ql61])⟩ | exact ⟨by grind, h _ (by clear h; grind [q2, ql8, ql39, ql44, ql45, ql60, ql61])⟩
  · refine ⟨fun c2 => ?_, fun c2 => ?_⟩
    · first | exact h _ (by clear h; grind [q2, ql8, ql39, ql44, ql45, ql60, ql61]) | exact ⟨Or.inl rfl, h _ (by clear h; grind [q2, ql8, ql39, ql44, ql45, ql60, ql61])⟩ | exact ⟨Or.inr rfl, h _ (by clear h; grind [q2, ql8, ql39, ql44, ql45, ql60, ql61])⟩ | exact ⟨by grind, h _ (by clear h; grind [q2, ql8, ql39, ql44, ql45, ql60, ql61])⟩
    · refine ⟨?_, ?_⟩
      · exact vb (N := 12) 12 (by decide) (by clear h; grind [q2, ql8, ql39, ql44, ql45, ql60, ql61]) (by clear h; grind [q2, ql8, ql39, ql44, ql45, ql60, ql61])
      first | exact h _ (by clear h; grind [q2, ql8, ql39, ql44, ql45, ql60, ql61]) | exact ⟨Or.inl rfl, h _ (by clear h; grind [q2, ql8, ql39, ql44, ql45, ql60, ql61])⟩ | exact ⟨Or.inr rfl, h _ (by clear h; grind [q2, ql8, ql39, ql44, ql45, ql60, ql61])⟩ | exact ⟨by grind, h _ (by clear h; grind [q2, ql8, ql39, ql44, ql45, ql60, ql61])⟩
theorem c_X0_latest {d z : Nat} {N : Nat → Nat} {I : Nat → Nat → Int32} {L : Nat → Nat → Int64} {R : Nat → Nat → Option Nat} {Q : qP} {s : Int32}  (h : ∀ v : Int32, (v = if 0 ≤ s ∧ s < 12 then I 50 s.toNatClampNeg else 999) → Q (some (.int v)) (z, N, I, L, R)) : qWP (d + 1) 9 [.ref 46, .int s] (z, N, I, L, R) Q := by
  refine qWP_of m_X0_latest rfl rfl [(0, .ref 46), (1, .int s)] rfl ?_
  refine qJ_run (qWP_mono _) [] 400 ?_
  refine ⟨fun c1 => ?_, fun c1 => ?_⟩
  · first | exact h _ (by clear h; grind [q2, ql8, ql39, ql44, ql45, ql60, ql61]) | exact ⟨Or.inl rfl, h _ (by clear h; grind [q2, ql8, ql39, ql44, ql45, ql60, ql61])⟩ | exact ⟨Or.inr rfl, h _ (by clear h; grind [q2, ql8, ql39, ql44, ql45, ql60, ql61])⟩ | exact ⟨by grind, h _ (by clear h; grind [q2, ql8, ql39, ql44, ql45, ql60, ql61])⟩
  · refine ⟨fun c2 => ?_, fun c2 => ?_⟩
    · first | exact h _ (by clear h; grind [q2, ql8, ql39, ql44, ql45, ql60, ql61]) | exact ⟨Or.inl rfl, h _ (by clear h; grind [q2, ql8, ql39, ql44, ql45, ql60, ql61])⟩ | exact ⟨Or.inr rfl, h _ (by clear h; grind [q2, ql8, ql39, ql44, ql45, ql60, ql61])⟩ | exact ⟨by grind, h _ (by clear h; grind [q2, ql8, ql39, ql44, ql45, ql60, ql61])⟩
    · refine ⟨?_, ?_⟩
      · exact vb (N := 12) 12 (by decide) (by clear h; grind [q2, ql8, ql39, ql44, ql45, ql60, ql61]) (by clear h; grind [q2, ql8, ql39, ql44, ql45, ql60, ql61])
      first | exact h _ (by clear h; grind [q2, ql8, ql39, ql44, ql45, ql60, ql61]) | exact ⟨Or.inl rfl, h _ (by clear h; grind [q2, ql8, ql39, ql44, ql45, ql60, ql61])⟩ | exact ⟨Or.inr rfl, h _ (by clear h; grind [q2, ql8, ql39, ql44, ql45, ql60, ql61])⟩ | exact ⟨by grind, h _ (by clear h; grind [q2, ql8, ql39, ql44, ql45, ql60, ql61])⟩
theorem c_X0_put {d z : Nat} {N : Nat → Nat} {I : Nat → Nat → Int32} {L : Nat → Nat → Int64} {R : Nat → Nat → Option Nat} {Q : qP} {a : Int32} {b : Int32} {g : Int32} (hn : 0 ≤ I 46 7 ∧ I 46 7 ≤ 20) (ha : 0 ≤ a ∧ a < 12) (hb : 0 ≤ b ∧ b < 12) (h1 : I 46 7 = 20 → Q (some (.int (-4))) (z, N, I, L, R)) (h2 : I 46 7 < 20 → Q (some (.int (I 46 7 + 1))) (z, N, q2 (q2 (q2 (q2 I 51 (I 46 7).toNatClampNeg a) 52 (I 46 7).toNatClampNeg b) 53 (I 46 7).toNatClampNeg g) 46 7 (I 46 7 + 1), L, R)) : qWP (d + 1) 3 [.ref 46, .int a, .int b, .int g] (z, N, I, L, R) Q := by
  refine qWP_of m_X0_put rfl rfl [(0, .ref 46), (1, .int a), (2, .int b), (3, .int g)] rfl ?_
  refine qJ_run (qWP_mono _) [] 400 ?_
  refine ⟨fun c1 => ?_, fun c1 => ?_⟩
  · refine ⟨fun c2 => ?_, fun c2 => ?_⟩
    · first | exact h1 (by clear h1 h2; grind [q2, ql8, ql39, ql44, ql45, ql60, ql61]) | exact h2 (by clear h1 h2; grind [q2, ql8, ql39, ql44, ql45, ql60, ql61]) | exact absurd hn (by clear h1 h2; grind [q2, ql8, ql39, ql44, ql45, ql60, ql61])
    · refine ⟨fun c3 => ?_, fun c3 => ?_⟩
      · first | exact h1 (by clear h1 h2; grind [q2, ql8, ql39, ql44, ql45, ql60, ql61]) | exact h2 (by clear h1 h2; grind [q2, ql8, ql39, ql44, ql45, ql60, ql61]) | exact absurd hn (by clear h1 h2; grind [q2, ql8, ql39, ql44, ql45, ql60, ql61])
      · refine ⟨fun c4 => ?_, fun c4 => ?_⟩
        · refine ⟨?_, ?_⟩
          · exact vb (N := 20) 20 (by decide) (by clear h1 h2; grind [q2, ql8, ql39, ql44, ql45, ql60, ql61]) (by clear h1 h2; grind [q2, ql8, ql39, ql44, ql45, ql60, ql61])
          refine ⟨?_, ?_⟩
          · exact vb (N := 20) 20 (by decide) (by clear h1 h2; grind [q2, ql8, ql39, ql44, ql45, ql60, ql61]) (by clear h1 h2; grind [q2, ql8, ql39, ql44, ql45, ql60, ql61])
          refine ⟨?_, ?_⟩
          · exact vb (N := 20) 20 (by decide) (by clear h1 h2; grind [q2, ql8, ql39, ql44, ql45, ql60, ql61]) (by clear h1 h2; grind [q2, ql8, ql39, ql44, ql45, ql60, ql61])
          first | exact h1 (by clear h1 h2; grind [q2, ql8, ql39, ql44, ql45, ql60, ql61]) | exact h2 (by clear h1 h2; grind [q2, ql8, ql39, ql44, ql45, ql60, ql61]) | exact absurd hn (by clear h1 h2; grind [q2, ql8, ql39, ql44, ql45, ql60, ql61])
        · first | exact h1 (by clear h1 h2; grind [q2, ql8, ql39, ql44, ql45, ql60, ql61]) | exact h2 (by clear h1 h2; grind [q2, ql8, ql39, ql44, ql45, ql60, ql61]) | exact absurd hn (by clear h1 h2; grind [q2, ql8, ql39, ql44, ql45, ql60, ql61])
  · refine ⟨fun c5 => ?_, fun c5 => ?_⟩
    · refine ⟨fun c6 => ?_, fun c6 => ?_⟩
      · first | exact h1 (by clear h1 h2; grind [q2, ql8, ql39, ql44, ql45, ql60, ql61]) | exact h2 (by clear h1 h2; grind [q2, ql8, ql39, ql44, ql45, ql60, ql61]) | exact absurd hn (by clear h1 h2; grind [q2, ql8, ql39, ql44, ql45, ql60, ql61])
      · refine ⟨fun c7 => ?_, fun c7 => ?_⟩
        · first | exact h1 (by clear h1 h2; grind [q2, ql8, ql39, ql44, ql45, ql60, ql61]) | exact h2 (by clear h1 h2; grind [q2, ql8, ql39, ql44, ql45, ql60, ql61]) | exact absurd hn (by clear h1 h2; grind [q2, ql8, ql39, ql44, ql45, ql60, ql61])
        · refine ⟨fun c8 => ?_, fun c8 => ?_⟩
          · refine ⟨?_, ?_⟩
            · exact vb (N := 20) 20 (by decide) (by clear h1 h2; grind [q2, ql8, ql39, ql44, ql45, ql60, ql61]) (by clear h1 h2; grind [q2, ql8, ql39, ql44, ql45, ql60, ql61])
            refine ⟨?_, ?_⟩
            · exact vb (N := 20) 20 (by decide) (by clear h1 h2; grind [q2, ql8, ql39, ql44, ql45, ql60, ql61]) (by clear h1 h2; grind [q2, ql8, ql39, ql44, ql45, ql60, ql61])
            refine ⟨?_, ?_⟩
            · exact vb (N := 20) 20 (by decide) (by clear h1 h2; grind [q2, ql8, ql39, ql44, ql45, ql60, ql61]) (by clear h1 h2; grind [q2, ql8, ql39, ql44, ql45, ql60, ql61])
            first | exact h1 (by clear h1 h2; grind [q2, ql8, ql39, ql44, ql45, ql60, ql61]) | exact h2 (by clear h1 h2; grind [q2, ql8, ql39, ql44, ql45, ql60, ql61]) | exact absurd hn (by clear h1 h2; grind [q2, ql8, ql39, ql44, ql45, ql60, ql61])
          · first | exact h1 (by clear h1 h2; grind [q2, ql8, ql39, ql44, ql45, ql60, ql61]) | exact h2 (by clear h1 h2; grind [q2, ql8, ql39, ql44, ql45, ql60, ql61]) | exact absurd hn (by clear h1 h2; grind [q2, ql8, ql39, ql44, ql45, ql60, ql61])
    · refine ⟨fun c9 => ?_, fun c9 => ?_⟩
      · refine ⟨fun c10 => ?_, fun c10 => ?_⟩
        · first | exact h1 (by clear h1 h2; grind [q2, ql8, ql39, ql44, ql45, ql60, ql61]) | exact h2 (by clear h1 h2; grind [q2, ql8, ql39, ql44, ql45, ql60, ql61]) | exact absurd hn (by clear h1 h2; grind [q2, ql8, ql39, ql44, ql45, ql60, ql61])
        · refine ⟨fun c11 => ?_, fun c11 => ?_⟩
          · first | exact h1 (by clear h1 h2; grind [q2, ql8, ql39, ql44, ql45, ql60, ql61]) | exact h2 (by clear h1 h2; grind [q2, ql8, ql39, ql44, ql45, ql60, ql61]) | exact absurd hn (by clear h1 h2; grind [q2, ql8, ql39, ql44, ql45, ql60, ql61])
          · refine ⟨fun c12 => ?_, fun c12 => ?_⟩
            · refine ⟨?_, ?_⟩
              · exact vb (N := 20) 20 (by decide) (by clear h1 h2; grind [q2, ql8, ql39, ql44, ql45, ql60, ql61]) (by clear h1 h2; grind [q2, ql8, ql39, ql44, ql45, ql60, ql61])
              refine ⟨?_, ?_⟩
              · exact vb (N := 20) 20 (by decide) (by clear h1 h2; grind [q2, ql8, ql39, ql44, ql45, ql60, ql61]) (by clear h1 h2; grind [q2, ql8, ql39, ql44, ql45, ql60, ql61])
              refine ⟨?_, ?_⟩
              · exact vb (N := 20) 20 (by decide) (by clear h1 h2; grind [q2, ql8, ql39, ql44, ql45, ql60, ql61]) (by clear h1 h2; grind [q2, ql8, ql39, ql44, ql45, ql60, ql61])
              first | exact h1 (by clear h1 h2; grind [q2, ql8, ql39, ql44, ql45, ql60, ql61]) | exact h2 (by clear h1 h2; grind [q2, ql8, ql39, ql44, ql45, ql60, ql61]) | exact absurd hn (by clear h1 h2; grind [q2, ql8, ql39, ql44, ql45, ql60, ql61])
            · first | exact h1 (by clear h1 h2; grind [q2, ql8, ql39, ql44, ql45, ql60, ql61]) | exact h2 (by clear h1 h2; grind [q2, ql8, ql39, ql44, ql45, ql60, ql61]) | exact absurd hn (by clear h1 h2; grind [q2, ql8, ql39, ql44, ql45, ql60, ql61])
      · refine ⟨fun c13 => ?_, fun c13 => ?_⟩
        · refine ⟨fun c14 => ?_, fun c14 => ?_⟩
          · first | exact h1 (by clear h1 h2; grind [q2, ql8, ql39, ql44, ql45, ql60, ql61]) | exact h2 (by clear h1 h2; grind [q2, ql8, ql39, ql44, ql45, ql60, ql61]) | exact absurd hn (by clear h1 h2; grind [q2, ql8, ql39, ql44, ql45, ql60, ql61])
          · refine ⟨fun c15 => ?_, fun c15 => ?_⟩
            · first | exact h1 (by clear h1 h2; grind [q2, ql8, ql39, ql44, ql45, ql60, ql61]) | exact h2 (by clear h1 h2; grind [q2, ql8, ql39, ql44, ql45, ql60, ql61]) | exact absurd hn (by clear h1 h2; grind [q2, ql8, ql39, ql44, ql45, ql60, ql61])
            · refine ⟨fun c16 => ?_, fun c16 => ?_⟩
              · refine ⟨?_, ?_⟩
                · exact vb (N := 20) 20 (by decide) (by clear h1 h2; grind [q2, ql8, ql39, ql44, ql45, ql60, ql61]) (by clear h1 h2; grind [q2, ql8, ql39, ql44, ql45, ql60, ql61])
                refine ⟨?_, ?_⟩
                · exact vb (N := 20) 20 (by decide) (by clear h1 h2; grind [q2, ql8, ql39, ql44, ql45, ql60, ql61]) (by clear h1 h2; grind [q2, ql8, ql39, ql44, ql45, ql60, ql61])
                refine ⟨?_, ?_⟩
                · exact vb (N := 20) 20 (by decide) (by clear h1 h2; grind [q2, ql8, ql39, ql44, ql45, ql60, ql61]) (by clear h1 h2; grind [q2, ql8, ql39, ql44, ql45, ql60, ql61])
                first | exact h1 (by clear h1 h2; grind [q2, ql8, ql39, ql44, ql45, ql60, ql61]) | exact h2 (by clear h1 h2; grind [q2, ql8, ql39, ql44, ql45, ql60, ql61]) | exact absurd hn (by clear h1 h2; grind [q2, ql8, ql39, ql44, ql45, ql60, ql61])
              · first | exact h1 (by clear h1 h2; grind [q2, ql8, ql39, ql44, ql45, ql60, ql61]) | exact h2 (by clear h1 h2; grind [q2, ql8, ql39, ql44, ql45, ql60, ql61]) | exact absurd hn (by clear h1 h2; grind [q2, ql8, ql39, ql44, ql45, ql60, ql61])
        · refine ⟨fun c17 => ?_, fun c17 => ?_⟩
          · first | exact h1 (by clear h1 h2; grind [q2, ql8, ql39, ql44, ql45, ql60, ql61]) | exact h2 (by clear h1 h2; grind [q2, ql8, ql39, ql44, ql45, ql60, ql61]) | exact absurd hn (by clear h1 h2; grind [q2, ql8, ql39, ql44, ql45, ql60, ql61])
          · refine ⟨fun c18 => ?_, fun c18 => ?_⟩
            · first | exact h1 (by clear h1 h2; grind [q2, ql8, ql39, ql44, ql45, ql60, ql61]) | exact h2 (by clear h1 h2; grind [q2, ql8, ql39, ql44, ql45, ql60, ql61]) | exact absurd hn (by clear h1 h2; grind [q2, ql8, ql39, ql44, ql45, ql60, ql61])
            · refine ⟨fun c19 => ?_, fun c19 => ?_⟩
              · refine ⟨?_, ?_⟩
                · exact vb (N := 20) 20 (by decide) (by clear h1 h2; grind [q2, ql8, ql39, ql44, ql45, ql60, ql61]) (by clear h1 h2; grind [q2, ql8, ql39, ql44, ql45, ql60, ql61])
                refine ⟨?_, ?_⟩
                · exact vb (N := 20) 20 (by decide) (by clear h1 h2; grind [q2, ql8, ql39, ql44, ql45, ql60, ql61]) (by clear h1 h2; grind [q2, ql8, ql39, ql44, ql45, ql60, ql61])
                refine ⟨?_, ?_⟩
                · exact vb (N := 20) 20 (by decide) (by clear h1 h2; grind [q2, ql8, ql39, ql44, ql45, ql60, ql61]) (by clear h1 h2; grind [q2, ql8, ql39, ql44, ql45, ql60, ql61])
                first | exact h1 (by clear h1 h2; grind [q2, ql8, ql39, ql44, ql45, ql60, ql61]) | exact h2 (by clear h1 h2; grind [q2, ql8, ql39, ql44, ql45, ql60, ql61]) | exact absurd hn (by clear h1 h2; grind [q2, ql8, ql39, ql44, ql45, ql60, ql61])
              · first | exact h1 (by clear h1 h2; grind [q2, ql8, ql39, ql44, ql45, ql60, ql61]) | exact h2 (by clear h1 h2; grind [q2, ql8, ql39, ql44, ql45, ql60, ql61]) | exact absurd hn (by clear h1 h2; grind [q2, ql8, ql39, ql44, ql45, ql60, ql61])
theorem c_X3_size {d z : Nat} {N : Nat → Nat} {I : Nat → Nat → Int32} {L : Nat → Nat → Int64} {R : Nat → Nat → Option Nat} {Q : qP}   (h : ∀ v : Int32, v = I 59 2 → Q (some (.int v)) (z, N, I, L, R)) : qWP (d + 1) 40 [.ref 59] (z, N, I, L, R) Q := by
  refine qWP_of m_X3_size rfl rfl [(0, .ref 59)] rfl ?_
  refine qJ_run (qWP_mono _) [] 400 ?_
  first | exact h _ (by clear h; grind [q2, ql8, ql39, ql44, ql45, ql60, ql61]) | exact ⟨Or.inl rfl, h _ (by clear h; grind [q2, ql8, ql39, ql44, ql45, ql60, ql61])⟩ | exact ⟨Or.inr rfl, h _ (by clear h; grind [q2, ql8, ql39, ql44, ql45, ql60, ql61])⟩ | exact ⟨by grind, h _ (by clear h; grind [q2, ql8, ql39, ql44, ql45, ql60, ql61])⟩
theorem c_X3_clear {d z : Nat} {N : Nat → Nat} {I : Nat → Nat → Int32} {L : Nat → Nat → Int64} {R : Nat → Nat → Option Nat} {Q : qP}  (h : Q none (z, N, q2 I 59 2 0, L, R)) : qWP (d + 1) 39 [.ref 59] (z, N, I, L, R) Q := by
  refine qWP_of m_X3_clear rfl rfl [(0, .ref 59)] rfl ?_
  refine qJ_run (qWP_mono _) [] 400 ?_
  exact h
theorem c_X3_byteAt {d z : Nat} {N : Nat → Nat} {I : Nat → Nat → Int32} {L : Nat → Nat → Int64} {R : Nat → Nat → Option Nat} {Q : qP} {a : Int32} (hn : 0 ≤ I 59 2 ∧ I 59 2 ≤ 72) (h : ∀ v : Int32, (v = if 0 ≤ a ∧ a < I 59 2 then I 60 a.toNatClampNeg else -1) → Q (some (.int v)) (z, N, I, L, R)) : qWP (d + 1) 41 [.ref 59, .int a] (z, N, I, L, R) Q := by
  refine qWP_of m_X3_byteAt rfl rfl [(0, .ref 59), (1, .int a)] rfl ?_
  refine qJ_run (qWP_mono _) [] 400 ?_
  refine ⟨fun c1 => ?_, fun c1 => ?_⟩
  · first | exact h _ (by clear h; grind [q2, ql8, ql39, ql44, ql45, ql60, ql61]) | exact ⟨Or.inl rfl, h _ (by clear h; grind [q2, ql8, ql39, ql44, ql45, ql60, ql61])⟩ | exact ⟨Or.inr rfl, h _ (by clear h; grind [q2, ql8, ql39, ql44, ql45, ql60, ql61])⟩ | exact ⟨by grind, h _ (by clear h; grind [q2, ql8, ql39, ql44, ql45, ql60, ql61])⟩
  · refine ⟨fun c2 => ?_, fun c2 => ?_⟩
    · first | exact h _ (by clear h; grind [q2, ql8, ql39, ql44, ql45, ql60, ql61]) | exact ⟨Or.inl rfl, h _ (by clear h; grind [q2, ql8, ql39, ql44, ql45, ql60, ql61])⟩ | exact ⟨Or.inr rfl, h _ (by clear h; grind [q2, ql8, ql39, ql44, ql45, ql60, ql61])⟩ | exact ⟨by grind, h _ (by clear h; grind [q2, ql8, ql39, ql44, ql45, ql60, ql61])⟩
    · refine ⟨fun c3 => ?_, fun c3 => ?_⟩
      · first | exact h _ (by clear h; grind [q2, ql8, ql39, ql44, ql45, ql60, ql61]) | exact ⟨Or.inl rfl, h _ (by clear h; grind [q2, ql8, ql39, ql44, ql45, ql60, ql61])⟩ | exact ⟨Or.inr rfl, h _ (by clear h; grind [q2, ql8, ql39, ql44, ql45, ql60, ql61])⟩ | exact ⟨by grind, h _ (by clear h; grind [q2, ql8, ql39, ql44, ql45, ql60, ql61])⟩
      · refine ⟨?_, ?_⟩
        · exact vb (N := 72) 72 (by decide) (by clear h; grind [q2, ql8, ql39, ql44, ql45, ql60, ql61]) (by clear h; grind [q2, ql8, ql39, ql44, ql45, ql60, ql61])
        first | exact h _ (by clear h; grind [q2, ql8, ql39, ql44, ql45, ql60, ql61]) | exact ⟨Or.inl rfl, h _ (by clear h; grind [q2, ql8, ql39, ql44, ql45, ql60, ql61])⟩ | exact ⟨Or.inr rfl, h _ (by clear h; grind [q2, ql8, ql39, ql44, ql45, ql60, ql61])⟩ | exact ⟨by grind, h _ (by clear h; grind [q2, ql8, ql39, ql44, ql45, ql60, ql61])⟩
theorem c_X3_parsedAt {d z : Nat} {N : Nat → Nat} {I : Nat → Nat → Int32} {L : Nat → Nat → Int64} {R : Nat → Nat → Option Nat} {Q : qP} {a : Int32}  (h : ∀ v : Int32, (v = if 0 ≤ a ∧ a < 24 then I 61 a.toNatClampNeg else 0) → Q (some (.int v)) (z, N, I, L, R)) : qWP (d + 1) 42 [.ref 59, .int a] (z, N, I, L, R) Q := by
  refine qWP_of m_X3_parsedAt rfl rfl [(0, .ref 59), (1, .int a)] rfl ?_
  refine qJ_run (qWP_mono _) [] 400 ?_
  refine ⟨fun c1 => ?_, fun c1 => ?_⟩
  · first | exact h _ (by clear h; grind [q2, ql8, ql39, ql44, ql45, ql60, ql61]) | exact ⟨Or.inl rfl, h _ (by clear h; grind [q2, ql8, ql39, ql44, ql45, ql60, ql61])⟩ | exact ⟨Or.inr rfl, h _ (by clear h; grind [q2, ql8, ql39, ql44, ql45, ql60, ql61])⟩ | exact ⟨by grind, h _ (by clear h; grind [q2, ql8, ql39, ql44, ql45, ql60, ql61])⟩
  · refine ⟨fun c2 => ?_, fun c2 => ?_⟩
    · first | exact h _ (by clear h; grind [q2, ql8, ql39, ql44, ql45, ql60, ql61]) | exact ⟨Or.inl rfl, h _ (by clear h; grind [q2, ql8, ql39, ql44, ql45, ql60, ql61])⟩ | exact ⟨Or.inr rfl, h _ (by clear h; grind [q2, ql8, ql39, ql44, ql45, ql60, ql61])⟩ | exact ⟨by grind, h _ (by clear h; grind [q2, ql8, ql39, ql44, ql45, ql60, ql61])⟩
    · refine ⟨?_, ?_⟩
      · exact vb (N := 24) 24 (by decide) (by clear h; grind [q2, ql8, ql39, ql44, ql45, ql60, ql61]) (by clear h; grind [q2, ql8, ql39, ql44, ql45, ql60, ql61])
      first | exact h _ (by clear h; grind [q2, ql8, ql39, ql44, ql45, ql60, ql61]) | exact ⟨Or.inl rfl, h _ (by clear h; grind [q2, ql8, ql39, ql44, ql45, ql60, ql61])⟩ | exact ⟨Or.inr rfl, h _ (by clear h; grind [q2, ql8, ql39, ql44, ql45, ql60, ql61])⟩ | exact ⟨by grind, h _ (by clear h; grind [q2, ql8, ql39, ql44, ql45, ql60, ql61])⟩
theorem c_X3_shown {d z : Nat} {N : Nat → Nat} {I : Nat → Nat → Int32} {L : Nat → Nat → Int64} {R : Nat → Nat → Option Nat} {Q : qP} {b : Int32}  (h : ∀ v : Int32, (v = if b = 26 then 95 else 97 + b) → Q (some (.int v)) (z, N, I, L, R)) : qWP (d + 1) 46 [.int b] (z, N, I, L, R) Q := by
  refine qWP_of m_X3_shown rfl rfl [(0, .int b)] rfl ?_
  refine qJ_run (qWP_mono _) [] 400 ?_
  refine ⟨fun c1 => ?_, fun c1 => ?_⟩
  · first | exact h _ (by clear h; grind [q2, ql8, ql39, ql44, ql45, ql60, ql61]) | exact ⟨Or.inl rfl, h _ (by clear h; grind [q2, ql8, ql39, ql44, ql45, ql60, ql61])⟩ | exact ⟨Or.inr rfl, h _ (by clear h; grind [q2, ql8, ql39, ql44, ql45, ql60, ql61])⟩ | exact ⟨by grind, h _ (by clear h; grind [q2, ql8, ql39, ql44, ql45, ql60, ql61])⟩
  · first | exact h _ (by clear h; grind [q2, ql8, ql39, ql44, ql45, ql60, ql61]) | exact ⟨Or.inl rfl, h _ (by clear h; grind [q2, ql8, ql39, ql44, ql45, ql60, ql61])⟩ | exact ⟨Or.inr rfl, h _ (by clear h; grind [q2, ql8, ql39, ql44, ql45, ql60, ql61])⟩ | exact ⟨by grind, h _ (by clear h; grind [q2, ql8, ql39, ql44, ql45, ql60, ql61])⟩
theorem c_X3_letterShown {d z : Nat} {N : Nat → Nat} {I : Nat → Nat → Int32} {L : Nat → Nat → Int64} {R : Nat → Nat → Option Nat} {Q : qP} {b : Int32}  (h : ∀ v : Int32, (v = if b = 95 then 26 else if 97 ≤ b ∧ b ≤ 122 then b - 97 else -1) → Q (some (.int v)) (z, N, I, L, R)) : qWP (d + 2) 47 [.int b] (z, N, I, L, R) Q := by
  refine qWP_of m_X3_letterShown rfl rfl [(0, .int b)] rfl ?_
  refine qJ_run (qWP_mono _) [] 400 ?_
  refine ⟨fun c1 => ?_, fun c1 => ?_⟩
  · refine ⟨⟨Nat.le_refl _, Nat.le_refl _⟩, ?_⟩
    refine c_X8_letterOf fun v hv => ?_
    first | exact h _ (by clear h; grind [q2, ql8, ql39, ql44, ql45, ql60, ql61]) | exact ⟨Or.inl rfl, h _ (by clear h; grind [q2, ql8, ql39, ql44, ql45, ql60, ql61])⟩ | exact ⟨Or.inr rfl, h _ (by clear h; grind [q2, ql8, ql39, ql44, ql45, ql60, ql61])⟩ | exact ⟨by grind, h _ (by clear h; grind [q2, ql8, ql39, ql44, ql45, ql60, ql61])⟩
  · first | exact h _ (by clear h; grind [q2, ql8, ql39, ql44, ql45, ql60, ql61]) | exact ⟨Or.inl rfl, h _ (by clear h; grind [q2, ql8, ql39, ql44, ql45, ql60, ql61])⟩ | exact ⟨Or.inr rfl, h _ (by clear h; grind [q2, ql8, ql39, ql44, ql45, ql60, ql61])⟩ | exact ⟨by grind, h _ (by clear h; grind [q2, ql8, ql39, ql44, ql45, ql60, ql61])⟩
theorem c_X10_has {d z : Nat} {N : Nat → Nat} {I : Nat → Nat → Int32} {L : Nat → Nat → Int64} {R : Nat → Nat → Option Nat} {Q : qP} {t : Int32}  (h : ∀ v : Int32, (v = if 0 ≤ t ∧ t < 4 then 1 else 0) → Q (some (.int v)) (z, N, I, L, R)) : qWP (d + 1) 115 [.int t] (z, N, I, L, R) Q := by
  refine qWP_of m_X10_has rfl rfl [(0, .int t)] rfl ?_
  refine qJ_run (qWP_mono _) [] 400 ?_
  refine ⟨fun c1 => ?_, fun c1 => ?_⟩
  · first | exact h _ (by clear h; grind [q2, ql8, ql39, ql44, ql45, ql60, ql61]) | exact ⟨Or.inl rfl, h _ (by clear h; grind [q2, ql8, ql39, ql44, ql45, ql60, ql61])⟩ | exact ⟨Or.inr rfl, h _ (by clear h; grind [q2, ql8, ql39, ql44, ql45, ql60, ql61])⟩ | exact ⟨by grind, h _ (by clear h; grind [q2, ql8, ql39, ql44, ql45, ql60, ql61])⟩
  · refine ⟨fun c2 => ?_, fun c2 => ?_⟩
    · first | exact h _ (by clear h; grind [q2, ql8, ql39, ql44, ql45, ql60, ql61]) | exact ⟨Or.inl rfl, h _ (by clear h; grind [q2, ql8, ql39, ql44, ql45, ql60, ql61])⟩ | exact ⟨Or.inr rfl, h _ (by clear h; grind [q2, ql8, ql39, ql44, ql45, ql60, ql61])⟩ | exact ⟨by grind, h _ (by clear h; grind [q2, ql8, ql39, ql44, ql45, ql60, ql61])⟩
    · first | exact h _ (by clear h; grind [q2, ql8, ql39, ql44, ql45, ql60, ql61]) | exact ⟨Or.inl rfl, h _ (by clear h; grind [q2, ql8, ql39, ql44, ql45, ql60, ql61])⟩ | exact ⟨Or.inr rfl, h _ (by clear h; grind [q2, ql8, ql39, ql44, ql45, ql60, ql61])⟩ | exact ⟨by grind, h _ (by clear h; grind [q2, ql8, ql39, ql44, ql45, ql60, ql61])⟩
theorem c_X10_sizeOf {d z : Nat} {N : Nat → Nat} {I : Nat → Nat → Int32} {L : Nat → Nat → Int64} {R : Nat → Nat → Option Nat} {Q : qP} {t : Int32}  (h : ∀ v : Int32, (v = if 0 ≤ t ∧ t < 4 then I 64 t.toNatClampNeg else -1) → Q (some (.int v)) (z, N, I, L, R)) : qWP (d + 2) 117 [.ref 62, .int t] (z, N, I, L, R) Q := by
  refine qWP_of m_X10_sizeOf rfl rfl [(0, .ref 62), (1, .int t)] rfl ?_
  refine qJ_run (qWP_mono _) [] 400 ?_
  refine ⟨⟨Nat.le_refl _, Nat.le_refl _⟩, ?_⟩
  refine c_X10_has fun v hv => ?_
  refine ⟨fun c1 => ?_, fun c1 => ?_⟩
  · first | exact h _ (by clear h; grind [q2, ql8, ql39, ql44, ql45, ql60, ql61]) | exact ⟨Or.inl rfl, h _ (by clear h; grind [q2, ql8, ql39, ql44, ql45, ql60, ql61])⟩ | exact ⟨Or.inr rfl, h _ (by clear h; grind [q2, ql8, ql39, ql44, ql45, ql60, ql61])⟩ | exact ⟨by grind, h _ (by clear h; grind [q2, ql8, ql39, ql44, ql45, ql60, ql61])⟩
  · refine ⟨?_, ?_⟩
    · exact vb (N := 4) 4 (by decide) (by clear h; grind [q2, ql8, ql39, ql44, ql45, ql60, ql61]) (by clear h; grind [q2, ql8, ql39, ql44, ql45, ql60, ql61])
    first | exact h _ (by clear h; grind [q2, ql8, ql39, ql44, ql45, ql60, ql61]) | exact ⟨Or.inl rfl, h _ (by clear h; grind [q2, ql8, ql39, ql44, ql45, ql60, ql61])⟩ | exact ⟨Or.inr rfl, h _ (by clear h; grind [q2, ql8, ql39, ql44, ql45, ql60, ql61])⟩ | exact ⟨by grind, h _ (by clear h; grind [q2, ql8, ql39, ql44, ql45, ql60, ql61])⟩
theorem c_X10_isMissing {d z : Nat} {N : Nat → Nat} {I : Nat → Nat → Int32} {L : Nat → Nat → Int64} {R : Nat → Nat → Option Nat} {Q : qP} {t : Int32}  (h : ∀ v : Int32, (v = if (if 0 ≤ t ∧ t < 4 then I 64 t.toNatClampNeg else -1) = -1 then 1 else 0) → Q (some (.int v)) (z, N, I, L, R)) : qWP (d + 3) 116 [.ref 62, .int t] (z, N, I, L, R) Q := by
  refine qWP_of m_X10_isMissing rfl rfl [(0, .ref 62), (1, .int t)] rfl ?_
  refine qJ_run (qWP_mono _) [] 400 ?_
  refine ⟨⟨Nat.le_refl _, Nat.le_refl _⟩, ?_⟩
  refine c_X10_sizeOf fun v hv => ?_
  refine ⟨fun c1 => ?_, fun c1 => ?_⟩
  · first | exact h _ (by clear h; grind [q2, ql8, ql39, ql44, ql45, ql60, ql61]) | exact ⟨Or.inl rfl, h _ (by clear h; grind [q2, ql8, ql39, ql44, ql45, ql60, ql61])⟩ | exact ⟨Or.inr rfl, h _ (by clear h; grind [q2, ql8, ql39, ql44, ql45, ql60, ql61])⟩ | exact ⟨by grind, h _ (by clear h; grind [q2, ql8, ql39, ql44, ql45, ql60, ql61])⟩
  · first | exact h _ (by clear h; grind [q2, ql8, ql39, ql44, ql45, ql60, ql61]) | exact ⟨Or.inl rfl, h _ (by clear h; grind [q2, ql8, ql39, ql44, ql45, ql60, ql61])⟩ | exact ⟨Or.inr rfl, h _ (by clear h; grind [q2, ql8, ql39, ql44, ql45, ql60, ql61])⟩ | exact ⟨by grind, h _ (by clear h; grind [q2, ql8, ql39, ql44, ql45, ql60, ql61])⟩
theorem c_X7_clear {d z : Nat} {N : Nat → Nat} {I : Nat → Nat → Int32} {L : Nat → Nat → Int64} {R : Nat → Nat → Option Nat} {Q : qP}  (h : Q none (z, N, q2 I 40 2 0, L, R)) : qWP (d + 1) 85 [.ref 40] (z, N, I, L, R) Q := by
  refine qWP_of m_X7_clear rfl rfl [(0, .ref 40)] rfl ?_
  refine qJ_run (qWP_mono _) [] 400 ?_
  exact h
theorem c_X7_add {d z : Nat} {N : Nat → Nat} {I : Nat → Nat → Int32} {L : Nat → Nat → Int64} {R : Nat → Nat → Option Nat} {Q : qP} {y : Int32} (hn : 0 ≤ I 40 2 ∧ I 40 2 ≤ 24) (h1 : I 40 2 = 24 → Q (some (.int 0)) (z, N, I, L, R)) (h2 : I 40 2 < 24 → Q (some (.int 1)) (z, N, q2 (q2 I 41 (I 40 2).toNatClampNeg y) 40 2 (I 40 2 + 1), L, R)) : qWP (d + 1) 86 [.ref 40, .int y] (z, N, I, L, R) Q := by
  refine qWP_of m_X7_add rfl rfl [(0, .ref 40), (1, .int y)] rfl ?_
  refine qJ_run (qWP_mono _) [] 400 ?_
  refine ⟨fun c1 => ?_, fun c1 => ?_⟩
  · first | exact ⟨Or.inl rfl, h1 (by clear h1 h2; grind [q2, ql8, ql39, ql44, ql45, ql60, ql61])⟩ | exact ⟨Or.inr rfl, h2 (by clear h1 h2; grind [q2, ql8, ql39, ql44, ql45, ql60, ql61])⟩ | exact absurd hn (by clear h1 h2; grind [q2, ql8, ql39, ql44, ql45, ql60, ql61])
  · refine ⟨fun c2 => ?_, fun c2 => ?_⟩
    · refine ⟨?_, ?_⟩
      · exact vb (N := 24) 24 (by decide) (by clear h1 h2; grind [q2, ql8, ql39, ql44, ql45, ql60, ql61]) (by clear h1 h2; grind [q2, ql8, ql39, ql44, ql45, ql60, ql61])
      first | exact ⟨Or.inl rfl, h1 (by clear h1 h2; grind [q2, ql8, ql39, ql44, ql45, ql60, ql61])⟩ | exact ⟨Or.inr rfl, h2 (by clear h1 h2; grind [q2, ql8, ql39, ql44, ql45, ql60, ql61])⟩ | exact absurd hn (by clear h1 h2; grind [q2, ql8, ql39, ql44, ql45, ql60, ql61])
    · first | exact ⟨Or.inl rfl, h1 (by clear h1 h2; grind [q2, ql8, ql39, ql44, ql45, ql60, ql61])⟩ | exact ⟨Or.inr rfl, h2 (by clear h1 h2; grind [q2, ql8, ql39, ql44, ql45, ql60, ql61])⟩ | exact absurd hn (by clear h1 h2; grind [q2, ql8, ql39, ql44, ql45, ql60, ql61])
theorem c_X7_carriedAt {d z : Nat} {N : Nat → Nat} {I : Nat → Nat → Int32} {L : Nat → Nat → Int64} {R : Nat → Nat → Option Nat} {Q : qP} {a : Int32} (hn : 0 ≤ I 40 2 ∧ I 40 2 ≤ 24) (h : ∀ v : Int32, (v = if 0 ≤ a ∧ a < I 40 2 ∧ a < 24 then I 42 a.toNatClampNeg else -1) → Q (some (.int v)) (z, N, I, L, R)) : qWP (d + 1) 93 [.ref 40, .int a] (z, N, I, L, R) Q := by
  refine qWP_of m_X7_carriedAt rfl rfl [(0, .ref 40), (1, .int a)] rfl ?_
  refine qJ_run (qWP_mono _) [] 400 ?_
  refine ⟨fun c1 => ?_, fun c1 => ?_⟩
  · first | exact h _ (by clear h; grind [q2, ql8, ql39, ql44, ql45, ql60, ql61]) | exact ⟨Or.inl rfl, h _ (by clear h; grind [q2, ql8, ql39, ql44, ql45, ql60, ql61])⟩ | exact ⟨Or.inr rfl, h _ (by clear h; grind [q2, ql8, ql39, ql44, ql45, ql60, ql61])⟩ | exact ⟨by grind, h _ (by clear h; grind [q2, ql8, ql39, ql44, ql45, ql60, ql61])⟩
  · refine ⟨fun c2 => ?_, fun c2 => ?_⟩
    · first | exact h _ (by clear h; grind [q2, ql8, ql39, ql44, ql45, ql60, ql61]) | exact ⟨Or.inl rfl, h _ (by clear h; grind [q2, ql8, ql39, ql44, ql45, ql60, ql61])⟩ | exact ⟨Or.inr rfl, h _ (by clear h; grind [q2, ql8, ql39, ql44, ql45, ql60, ql61])⟩ | exact ⟨by grind, h _ (by clear h; grind [q2, ql8, ql39, ql44, ql45, ql60, ql61])⟩
    · refine ⟨fun c3 => ?_, fun c3 => ?_⟩
      · first | exact h _ (by clear h; grind [q2, ql8, ql39, ql44, ql45, ql60, ql61]) | exact ⟨Or.inl rfl, h _ (by clear h; grind [q2, ql8, ql39, ql44, ql45, ql60, ql61])⟩ | exact ⟨Or.inr rfl, h _ (by clear h; grind [q2, ql8, ql39, ql44, ql45, ql60, ql61])⟩ | exact ⟨by grind, h _ (by clear h; grind [q2, ql8, ql39, ql44, ql45, ql60, ql61])⟩
      · refine ⟨?_, ?_⟩
        · exact vb (N := 24) 24 (by decide) (by clear h; grind [q2, ql8, ql39, ql44, ql45, ql60, ql61]) (by clear h; grind [q2, ql8, ql39, ql44, ql45, ql60, ql61])
        first | exact h _ (by clear h; grind [q2, ql8, ql39, ql44, ql45, ql60, ql61]) | exact ⟨Or.inl rfl, h _ (by clear h; grind [q2, ql8, ql39, ql44, ql45, ql60, ql61])⟩ | exact ⟨Or.inr rfl, h _ (by clear h; grind [q2, ql8, ql39, ql44, ql45, ql60, ql61])⟩ | exact ⟨by grind, h _ (by clear h; grind [q2, ql8, ql39, ql44, ql45, ql60, ql61])⟩
theorem c_X4_size {d z : Nat} {N : Nat → Nat} {I : Nat → Nat → Int32} {L : Nat → Nat → Int64} {R : Nat → Nat → Option Nat} {Q : qP}   (h : ∀ v : Int32, v = I 54 5 → Q (some (.int v)) (z, N, I, L, R)) : qWP (d + 1) 53 [.ref 54] (z, N, I, L, R) Q := by
  refine qWP_of m_X4_size rfl rfl [(0, .ref 54)] rfl ?_
  refine qJ_run (qWP_mono _) [] 400 ?_
  first | exact h _ (by clear h; grind [q2, ql8, ql39, ql44, ql45, ql60, ql61]) | exact ⟨Or.inl rfl, h _ (by clear h; grind [q2, ql8, ql39, ql44, ql45, ql60, ql61])⟩ | exact ⟨Or.inr rfl, h _ (by clear h; grind [q2, ql8, ql39, ql44, ql45, ql60, ql61])⟩ | exact ⟨by grind, h _ (by clear h; grind [q2, ql8, ql39, ql44, ql45, ql60, ql61])⟩
theorem c_X4_has {d z : Nat} {N : Nat → Nat} {I : Nat → Nat → Int32} {L : Nat → Nat → Int64} {R : Nat → Nat → Option Nat} {Q : qP} {s : Int32} (hn : 0 ≤ I 54 5 ∧ I 54 5 ≤ 12) (h : ∀ v : Int32, (v = if 0 ≤ s ∧ s < I 54 5 then 1 else 0) → Q (some (.int v)) (z, N, I, L, R)) : qWP (d + 1) 54 [.ref 54, .int s] (z, N, I, L, R) Q := by
  refine qWP_of m_X4_has rfl rfl [(0, .ref 54), (1, .int s)] rfl ?_
  refine qJ_run (qWP_mono _) [] 400 ?_
  refine ⟨fun c1 => ?_, fun c1 => ?_⟩
  · first | exact h _ (by clear h; grind [q2, ql8, ql39, ql44, ql45, ql60, ql61]) | exact ⟨Or.inl rfl, h _ (by clear h; grind [q2, ql8, ql39, ql44, ql45, ql60, ql61])⟩ | exact ⟨Or.inr rfl, h _ (by clear h; grind [q2, ql8, ql39, ql44, ql45, ql60, ql61])⟩ | exact ⟨by grind, h _ (by clear h; grind [q2, ql8, ql39, ql44, ql45, ql60, ql61])⟩
  · refine ⟨fun c2 => ?_, fun c2 => ?_⟩
    · first | exact h _ (by clear h; grind [q2, ql8, ql39, ql44, ql45, ql60, ql61]) | exact ⟨Or.inl rfl, h _ (by clear h; grind [q2, ql8, ql39, ql44, ql45, ql60, ql61])⟩ | exact ⟨Or.inr rfl, h _ (by clear h; grind [q2, ql8, ql39, ql44, ql45, ql60, ql61])⟩ | exact ⟨by grind, h _ (by clear h; grind [q2, ql8, ql39, ql44, ql45, ql60, ql61])⟩
    · refine ⟨fun c3 => ?_, fun c3 => ?_⟩
      · first | exact h _ (by clear h; grind [q2, ql8, ql39, ql44, ql45, ql60, ql61]) | exact ⟨Or.inl rfl, h _ (by clear h; grind [q2, ql8, ql39, ql44, ql45, ql60, ql61])⟩ | exact ⟨Or.inr rfl, h _ (by clear h; grind [q2, ql8, ql39, ql44, ql45, ql60, ql61])⟩ | exact ⟨by grind, h _ (by clear h; grind [q2, ql8, ql39, ql44, ql45, ql60, ql61])⟩
      · first | exact h _ (by clear h; grind [q2, ql8, ql39, ql44, ql45, ql60, ql61]) | exact ⟨Or.inl rfl, h _ (by clear h; grind [q2, ql8, ql39, ql44, ql45, ql60, ql61])⟩ | exact ⟨Or.inr rfl, h _ (by clear h; grind [q2, ql8, ql39, ql44, ql45, ql60, ql61])⟩ | exact ⟨by grind, h _ (by clear h; grind [q2, ql8, ql39, ql44, ql45, ql60, ql61])⟩
theorem c_X4_groupOf {d z : Nat} {N : Nat → Nat} {I : Nat → Nat → Int32} {L : Nat → Nat → Int64} {R : Nat → Nat → Option Nat} {Q : qP} {s : Int32} (hn : 0 ≤ I 54 5 ∧ I 54 5 ≤ 12) (h : ∀ v : Int32, (v = if 0 ≤ s ∧ s < I 54 5 then I 58 s.toNatClampNeg else -1) → Q (some (.int v)) (z, N, I, L, R)) : qWP (d + 2) 58 [.ref 54, .int s] (z, N, I, L, R) Q := by
  refine qWP_of m_X4_groupOf rfl rfl [(0, .ref 54), (1, .int s)] rfl ?_
  refine qJ_run (qWP_mono _) [] 400 ?_
  refine ⟨⟨Nat.le_refl _, Nat.le_refl _⟩, ?_⟩
  refine c_X4_has hn fun v hv => ?_
  refine ⟨fun c1 => ?_, fun c1 => ?_⟩
  · first | exact h _ (by clear h; grind [q2, ql8, ql39, ql44, ql45, ql60, ql61]) | exact ⟨Or.inl rfl, h _ (by clear h; grind [q2, ql8, ql39, ql44, ql45, ql60, ql61])⟩ | exact ⟨Or.inr rfl, h _ (by clear h; grind [q2, ql8, ql39, ql44, ql45, ql60, ql61])⟩ | exact ⟨by grind, h _ (by clear h; grind [q2, ql8, ql39, ql44, ql45, ql60, ql61])⟩
  · refine ⟨?_, ?_⟩
    · exact vb (N := 12) 12 (by decide) (by clear h; grind [q2, ql8, ql39, ql44, ql45, ql60, ql61]) (by clear h; grind [q2, ql8, ql39, ql44, ql45, ql60, ql61])
    first | exact h _ (by clear h; grind [q2, ql8, ql39, ql44, ql45, ql60, ql61]) | exact ⟨Or.inl rfl, h _ (by clear h; grind [q2, ql8, ql39, ql44, ql45, ql60, ql61])⟩ | exact ⟨Or.inr rfl, h _ (by clear h; grind [q2, ql8, ql39, ql44, ql45, ql60, ql61])⟩ | exact ⟨by grind, h _ (by clear h; grind [q2, ql8, ql39, ql44, ql45, ql60, ql61])⟩
theorem c_X4_put {d z : Nat} {N : Nat → Nat} {I : Nat → Nat → Int32} {L : Nat → Nat → Int64} {R : Nat → Nat → Option Nat} {Q : qP} {a : Int64} {b : Int64} {s : Int32} (hn : 0 ≤ I 54 5 ∧ I 54 5 ≤ 12) (h1 : I 54 5 = 12 → Q (some (.int (-4))) (z, N, I, L, R)) (h2 : I 54 5 < 12 → Q (some (.int (I 54 5 + 1 - 1))) (z, N, q2 (q2 I 57 (I 54 5).toNatClampNeg s) 54 5 (I 54 5 + 1), q2 (q2 L 55 (I 54 5).toNatClampNeg a) 56 (I 54 5).toNatClampNeg b, R)) : qWP (d + 1) 52 [.ref 54, .long a, .long b, .int s] (z, N, I, L, R) Q := by
  refine qWP_of m_X4_put rfl rfl [(0, .ref 54), (1, .long a), (3, .long b), (5, .int s)] rfl ?_
  refine qJ_run (qWP_mono _) [] 400 ?_
  refine ⟨fun c1 => ?_, fun c1 => ?_⟩
  · first | exact h1 (by clear h1 h2; grind [q2, ql8, ql39, ql44, ql45, ql60, ql61]) | exact h2 (by clear h1 h2; grind [q2, ql8, ql39, ql44, ql45, ql60, ql61]) | exact absurd hn (by clear h1 h2; grind [q2, ql8, ql39, ql44, ql45, ql60, ql61])
  · refine ⟨fun c2 => ?_, fun c2 => ?_⟩
    · refine ⟨?_, ?_⟩
      · exact vb (N := 12) 12 (by decide) (by clear h1 h2; grind [q2, ql8, ql39, ql44, ql45, ql60, ql61]) (by clear h1 h2; grind [q2, ql8, ql39, ql44, ql45, ql60, ql61])
      refine ⟨?_, ?_⟩
      · exact vb (N := 12) 12 (by decide) (by clear h1 h2; grind [q2, ql8, ql39, ql44, ql45, ql60, ql61]) (by clear h1 h2; grind [q2, ql8, ql39, ql44, ql45, ql60, ql61])
      refine ⟨?_, ?_⟩
      · exact vb (N := 12) 12 (by decide) (by clear h1 h2; grind [q2, ql8, ql39, ql44, ql45, ql60, ql61]) (by clear h1 h2; grind [q2, ql8, ql39, ql44, ql45, ql60, ql61])
      first | exact h1 (by clear h1 h2; grind [q2, ql8, ql39, ql44, ql45, ql60, ql61]) | exact h2 (by clear h1 h2; grind [q2, ql8, ql39, ql44, ql45, ql60, ql61]) | exact absurd hn (by clear h1 h2; grind [q2, ql8, ql39, ql44, ql45, ql60, ql61])
    · first | exact h1 (by clear h1 h2; grind [q2, ql8, ql39, ql44, ql45, ql60, ql61]) | exact h2 (by clear h1 h2; grind [q2, ql8, ql39, ql44, ql45, ql60, ql61]) | exact absurd hn (by clear h1 h2; grind [q2, ql8, ql39, ql44, ql45, ql60, ql61])
theorem c_X12_isIn {d z : Nat} {N : Nat → Nat} {I : Nat → Nat → Int32} {L : Nat → Nat → Int64} {R : Nat → Nat → Option Nat} {Q : qP} {k : Int32} {n : Int32}  (h : ∀ v : Int32, (v = if 0 ≤ k ∧ k < n then 1 else 0) → Q (some (.int v)) (z, N, I, L, R)) : qWP (d + 1) 167 [.int k, .int n] (z, N, I, L, R) Q := by
  refine qWP_of m_X12_isIn rfl rfl [(0, .int k), (1, .int n)] rfl ?_
  refine qJ_run (qWP_mono _) [] 400 ?_
  refine ⟨fun c1 => ?_, fun c1 => ?_⟩
  · first | exact h _ (by clear h; grind [q2, ql8, ql39, ql44, ql45, ql60, ql61]) | exact ⟨Or.inl rfl, h _ (by clear h; grind [q2, ql8, ql39, ql44, ql45, ql60, ql61])⟩ | exact ⟨Or.inr rfl, h _ (by clear h; grind [q2, ql8, ql39, ql44, ql45, ql60, ql61])⟩ | exact ⟨by grind, h _ (by clear h; grind [q2, ql8, ql39, ql44, ql45, ql60, ql61])⟩
  · refine ⟨fun c2 => ?_, fun c2 => ?_⟩
    · first | exact h _ (by clear h; grind [q2, ql8, ql39, ql44, ql45, ql60, ql61]) | exact ⟨Or.inl rfl, h _ (by clear h; grind [q2, ql8, ql39, ql44, ql45, ql60, ql61])⟩ | exact ⟨Or.inr rfl, h _ (by clear h; grind [q2, ql8, ql39, ql44, ql45, ql60, ql61])⟩ | exact ⟨by grind, h _ (by clear h; grind [q2, ql8, ql39, ql44, ql45, ql60, ql61])⟩
    · first | exact h _ (by clear h; grind [q2, ql8, ql39, ql44, ql45, ql60, ql61]) | exact ⟨Or.inl rfl, h _ (by clear h; grind [q2, ql8, ql39, ql44, ql45, ql60, ql61])⟩ | exact ⟨Or.inr rfl, h _ (by clear h; grind [q2, ql8, ql39, ql44, ql45, ql60, ql61])⟩ | exact ⟨by grind, h _ (by clear h; grind [q2, ql8, ql39, ql44, ql45, ql60, ql61])⟩
theorem c_X12_isStone {d z : Nat} {N : Nat → Nat} {I : Nat → Nat → Int32} {L : Nat → Nat → Int64} {R : Nat → Nat → Option Nat} {Q : qP} {s : Int32}  (h : ∀ v : Int32, (v = if 0 ≤ s ∧ s < I 65 0 then 1 else 0) → Q (some (.int v)) (z, N, I, L, R)) : qWP (d + 2) 168 [.ref 65, .int s] (z, N, I, L, R) Q := by
  refine qWP_of m_X12_isStone rfl rfl [(0, .ref 65), (1, .int s)] rfl ?_
  refine qJ_run (qWP_mono _) [] 400 ?_
  refine ⟨⟨Nat.le_refl _, Nat.le_refl _⟩, ?_⟩
  refine c_X12_isIn fun v hv => ?_
  first | exact h _ (by clear h; grind [q2, ql8, ql39, ql44, ql45, ql60, ql61]) | exact ⟨Or.inl rfl, h _ (by clear h; grind [q2, ql8, ql39, ql44, ql45, ql60, ql61])⟩ | exact ⟨Or.inr rfl, h _ (by clear h; grind [q2, ql8, ql39, ql44, ql45, ql60, ql61])⟩ | exact ⟨by grind, h _ (by clear h; grind [q2, ql8, ql39, ql44, ql45, ql60, ql61])⟩
theorem c_X12_isLine {d z : Nat} {N : Nat → Nat} {I : Nat → Nat → Int32} {L : Nat → Nat → Int64} {R : Nat → Nat → Option Nat} {Q : qP} {s : Int32} {l : Int32} (hn : 0 ≤ I 65 0 ∧ I 65 0 ≤ 12) (h : ∀ v : Int32, (v = if (0 ≤ s ∧ s < I 65 0) ∧ 0 ≤ l ∧ l < I 66 s.toNatClampNeg then 1 else 0) → Q (some (.int v)) (z, N, I, L, R)) : qWP (d + 3) 169 [.ref 65, .int s, .int l] (z, N, I, L, R) Q := by
  refine qWP_of m_X12_isLine rfl rfl [(0, .ref 65), (1, .int s), (2, .int l)] rfl ?_
  refine qJ_run (qWP_mono _) [] 400 ?_
  refine ⟨⟨Nat.le_refl _, Nat.le_refl _⟩, ?_⟩
  refine c_X12_isStone fun v hv => ?_
  refine ⟨fun c1 => ?_, fun c1 => ?_⟩
  · first | exact h _ (by clear h; grind [q2, ql8, ql39, ql44, ql45, ql60, ql61]) | exact ⟨Or.inl rfl, h _ (by clear h; grind [q2, ql8, ql39, ql44, ql45, ql60, ql61])⟩ | exact ⟨Or.inr rfl, h _ (by clear h; grind [q2, ql8, ql39, ql44, ql45, ql60, ql61])⟩ | exact ⟨by grind, h _ (by clear h; grind [q2, ql8, ql39, ql44, ql45, ql60, ql61])⟩
  · refine ⟨?_, ?_⟩
    · exact vb (N := 12) 12 (by decide) (by clear h; grind [q2, ql8, ql39, ql44, ql45, ql60, ql61]) (by clear h; grind [q2, ql8, ql39, ql44, ql45, ql60, ql61])
    refine ⟨⟨Nat.le_refl _, Nat.le_refl _⟩, ?_⟩
    refine c_X12_isIn fun v hv => ?_
    refine ⟨fun c2 => ?_, fun c2 => ?_⟩
    · first | exact h _ (by clear h; grind [q2, ql8, ql39, ql44, ql45, ql60, ql61]) | exact ⟨Or.inl rfl, h _ (by clear h; grind [q2, ql8, ql39, ql44, ql45, ql60, ql61])⟩ | exact ⟨Or.inr rfl, h _ (by clear h; grind [q2, ql8, ql39, ql44, ql45, ql60, ql61])⟩ | exact ⟨by grind, h _ (by clear h; grind [q2, ql8, ql39, ql44, ql45, ql60, ql61])⟩
    · first | exact h _ (by clear h; grind [q2, ql8, ql39, ql44, ql45, ql60, ql61]) | exact ⟨Or.inl rfl, h _ (by clear h; grind [q2, ql8, ql39, ql44, ql45, ql60, ql61])⟩ | exact ⟨Or.inr rfl, h _ (by clear h; grind [q2, ql8, ql39, ql44, ql45, ql60, ql61])⟩ | exact ⟨by grind, h _ (by clear h; grind [q2, ql8, ql39, ql44, ql45, ql60, ql61])⟩
theorem c_X12_isPlace {d z : Nat} {N : Nat → Nat} {I : Nat → Nat → Int32} {L : Nat → Nat → Int64} {R : Nat → Nat → Option Nat} {Q : qP} {s : Int32} {l : Int32} {p : Int32} (hn : 0 ≤ I 65 0 ∧ I 65 0 ≤ 12) (h : ∀ v : Int32, (v = if ((0 ≤ s ∧ s < I 65 0) ∧ 0 ≤ l ∧ l < I 66 s.toNatClampNeg) ∧ 0 ≤ p ∧ p < I 67 s.toNatClampNeg then 1 else 0) → Q (some (.int v)) (z, N, I, L, R)) : qWP (d + 4) 170 [.ref 65, .int s, .int l, .int p] (z, N, I, L, R) Q := by
  refine qWP_of m_X12_isPlace rfl rfl [(0, .ref 65), (1, .int s), (2, .int l), (3, .int p)] rfl ?_
  refine qJ_run (qWP_mono _) [] 400 ?_
  refine ⟨⟨Nat.le_refl _, Nat.le_refl _⟩, ?_⟩
  refine c_X12_isLine hn fun v hv => ?_
  refine ⟨fun c1 => ?_, fun c1 => ?_⟩
  · first | exact h _ (by clear h; grind [q2, ql8, ql39, ql44, ql45, ql60, ql61]) | exact ⟨Or.inl rfl, h _ (by clear h; grind [q2, ql8, ql39, ql44, ql45, ql60, ql61])⟩ | exact ⟨Or.inr rfl, h _ (by clear h; grind [q2, ql8, ql39, ql44, ql45, ql60, ql61])⟩ | exact ⟨by grind, h _ (by clear h; grind [q2, ql8, ql39, ql44, ql45, ql60, ql61])⟩
  · refine ⟨?_, ?_⟩
    · exact vb (N := 12) 12 (by decide) (by clear h; grind [q2, ql8, ql39, ql44, ql45, ql60, ql61]) (by clear h; grind [q2, ql8, ql39, ql44, ql45, ql60, ql61])
    refine ⟨⟨Nat.le_refl _, Nat.le_refl _⟩, ?_⟩
    refine c_X12_isIn fun v hv => ?_
    refine ⟨fun c2 => ?_, fun c2 => ?_⟩
    · first | exact h _ (by clear h; grind [q2, ql8, ql39, ql44, ql45, ql60, ql61]) | exact ⟨Or.inl rfl, h _ (by clear h; grind [q2, ql8, ql39, ql44, ql45, ql60, ql61])⟩ | exact ⟨Or.inr rfl, h _ (by clear h; grind [q2, ql8, ql39, ql44, ql45, ql60, ql61])⟩ | exact ⟨by grind, h _ (by clear h; grind [q2, ql8, ql39, ql44, ql45, ql60, ql61])⟩
    · first | exact h _ (by clear h; grind [q2, ql8, ql39, ql44, ql45, ql60, ql61]) | exact ⟨Or.inl rfl, h _ (by clear h; grind [q2, ql8, ql39, ql44, ql45, ql60, ql61])⟩ | exact ⟨Or.inr rfl, h _ (by clear h; grind [q2, ql8, ql39, ql44, ql45, ql60, ql61])⟩ | exact ⟨by grind, h _ (by clear h; grind [q2, ql8, ql39, ql44, ql45, ql60, ql61])⟩
theorem c_X12_at {d z : Nat} {N : Nat → Nat} {I : Nat → Nat → Int32} {L : Nat → Nat → Int64} {R : Nat → Nat → Option Nat} {Q : qP} {a : Int32} {s : Int32} {l : Int32} {p : Int32}  (h : ∀ v : Int32, v = ((a * 12 + s) * 4 + l) * 24 + p → Q (some (.int v)) (z, N, I, L, R)) : qWP (d + 1) 171 [.int a, .int s, .int l, .int p] (z, N, I, L, R) Q := by
  refine qWP_of m_X12_at rfl rfl [(0, .int a), (1, .int s), (2, .int l), (3, .int p)] rfl ?_
  refine qJ_run (qWP_mono _) [] 400 ?_
  first | exact h _ (by clear h; grind [q2, ql8, ql39, ql44, ql45, ql60, ql61]) | exact ⟨Or.inl rfl, h _ (by clear h; grind [q2, ql8, ql39, ql44, ql45, ql60, ql61])⟩ | exact ⟨Or.inr rfl, h _ (by clear h; grind [q2, ql8, ql39, ql44, ql45, ql60, ql61])⟩ | exact ⟨by grind, h _ (by clear h; grind [q2, ql8, ql39, ql44, ql45, ql60, ql61])⟩
theorem c_X12_reads {d z : Nat} {N : Nat → Nat} {I : Nat → Nat → Int32} {L : Nat → Nat → Int64} {R : Nat → Nat → Option Nat} {Q : qP} {a : Int32} {s : Int32} {l : Int32} {p : Int32} {k : Int32} {y : Int32} (hx : 0 ≤ ((a * 12 + s) * 4 + l) * 24 + p ∧ ((a * 12 + s) * 4 + l) * 24 + p < 6912) (h : Q none (z, N, q2 (q2 I 70 (((a * 12 + s) * 4 + l) * 24 + p).toNatClampNeg (k + 1)) 71 (((a * 12 + s) * 4 + l) * 24 + p).toNatClampNeg y, L, R)) : qWP (d + 2) 174 [.ref 65, .int a, .int s, .int l, .int p, .int k, .int y] (z, N, I, L, R) Q := by
  refine qWP_of m_X12_reads rfl rfl [(0, .ref 65), (1, .int a), (2, .int s), (3, .int l), (4, .int p), (5, .int k), (6, .int y)] rfl ?_
  refine qJ_run (qWP_mono _) [] 400 ?_
  refine ⟨⟨Nat.le_refl _, Nat.le_refl _⟩, ?_⟩
  refine c_X12_at fun v hv => ?_
  subst hv
  refine ⟨?_, ?_⟩
  · exact vb (N := 6912) 6912 (by decide) (by grind [q2, ql8, ql39, ql44, ql45, ql60, ql61]) (by grind [q2, ql8, ql39, ql44, ql45, ql60, ql61])
  refine ⟨⟨Nat.le_refl _, Nat.le_refl _⟩, ?_⟩
  refine c_X12_at fun v hv => ?_
  subst hv
  refine ⟨?_, ?_⟩
  · exact vb (N := 6912) 6912 (by decide) (by grind [q2, ql8, ql39, ql44, ql45, ql60, ql61]) (by grind [q2, ql8, ql39, ql44, ql45, ql60, ql61])
  exact h
theorem c_X12_isLetter {d z : Nat} {N : Nat → Nat} {I : Nat → Nat → Int32} {L : Nat → Nat → Int64} {R : Nat → Nat → Option Nat} {Q : qP} {b : Int32}  (h : ∀ v : Int32, (v = if 97 ≤ b ∧ b ≤ 122 then 1 else 0) → Q (some (.int v)) (z, N, I, L, R)) : qWP (d + 1) 182 [.int b] (z, N, I, L, R) Q := by
  refine qWP_of m_X12_isLetter rfl rfl [(0, .int b)] rfl ?_
  refine qJ_run (qWP_mono _) [] 400 ?_
  refine ⟨fun c1 => ?_, fun c1 => ?_⟩
  · first | exact h _ (by clear h; grind [q2, ql8, ql39, ql44, ql45, ql60, ql61]) | exact ⟨Or.inl rfl, h _ (by clear h; grind [q2, ql8, ql39, ql44, ql45, ql60, ql61])⟩ | exact ⟨Or.inr rfl, h _ (by clear h; grind [q2, ql8, ql39, ql44, ql45, ql60, ql61])⟩ | exact ⟨by grind, h _ (by clear h; grind [q2, ql8, ql39, ql44, ql45, ql60, ql61])⟩
  · refine ⟨fun c2 => ?_, fun c2 => ?_⟩
    · first | exact h _ (by clear h; grind [q2, ql8, ql39, ql44, ql45, ql60, ql61]) | exact ⟨Or.inl rfl, h _ (by clear h; grind [q2, ql8, ql39, ql44, ql45, ql60, ql61])⟩ | exact ⟨Or.inr rfl, h _ (by clear h; grind [q2, ql8, ql39, ql44, ql45, ql60, ql61])⟩ | exact ⟨by grind, h _ (by clear h; grind [q2, ql8, ql39, ql44, ql45, ql60, ql61])⟩
    · first | exact h _ (by clear h; grind [q2, ql8, ql39, ql44, ql45, ql60, ql61]) | exact ⟨Or.inl rfl, h _ (by clear h; grind [q2, ql8, ql39, ql44, ql45, ql60, ql61])⟩ | exact ⟨Or.inr rfl, h _ (by clear h; grind [q2, ql8, ql39, ql44, ql45, ql60, ql61])⟩ | exact ⟨by grind, h _ (by clear h; grind [q2, ql8, ql39, ql44, ql45, ql60, ql61])⟩
theorem c_X12_isFormula {d z : Nat} {N : Nat → Nat} {I : Nat → Nat → Int32} {L : Nat → Nat → Int64} {R : Nat → Nat → Option Nat} {Q : qP} {s : Int32}  (h : ∀ v : Int32, (v = if 0 ≤ s ∧ s < I 65 2 then 1 else 0) → Q (some (.int v)) (z, N, I, L, R)) : qWP (d + 2) 194 [.ref 65, .int s] (z, N, I, L, R) Q := by
  refine qWP_of m_X12_isFormula rfl rfl [(0, .ref 65), (1, .int s)] rfl ?_
  refine qJ_run (qWP_mono _) [] 400 ?_
  refine ⟨⟨Nat.le_refl _, Nat.le_refl _⟩, ?_⟩
  refine c_X12_isIn fun v hv => ?_
  first | exact h _ (by clear h; grind [q2, ql8, ql39, ql44, ql45, ql60, ql61]) | exact ⟨Or.inl rfl, h _ (by clear h; grind [q2, ql8, ql39, ql44, ql45, ql60, ql61])⟩ | exact ⟨Or.inr rfl, h _ (by clear h; grind [q2, ql8, ql39, ql44, ql45, ql60, ql61])⟩ | exact ⟨by grind, h _ (by clear h; grind [q2, ql8, ql39, ql44, ql45, ql60, ql61])⟩
theorem c_X12_isPerson {d z : Nat} {N : Nat → Nat} {I : Nat → Nat → Int32} {L : Nat → Nat → Int64} {R : Nat → Nat → Option Nat} {Q : qP} {s : Int32}  (h : ∀ v : Int32, (v = if 0 ≤ s ∧ s < I 65 3 then 1 else 0) → Q (some (.int v)) (z, N, I, L, R)) : qWP (d + 2) 228 [.ref 65, .int s] (z, N, I, L, R) Q := by
  refine qWP_of m_X12_isPerson rfl rfl [(0, .ref 65), (1, .int s)] rfl ?_
  refine qJ_run (qWP_mono _) [] 400 ?_
  refine ⟨⟨Nat.le_refl _, Nat.le_refl _⟩, ?_⟩
  refine c_X12_isIn fun v hv => ?_
  first | exact h _ (by clear h; grind [q2, ql8, ql39, ql44, ql45, ql60, ql61]) | exact ⟨Or.inl rfl, h _ (by clear h; grind [q2, ql8, ql39, ql44, ql45, ql60, ql61])⟩ | exact ⟨Or.inr rfl, h _ (by clear h; grind [q2, ql8, ql39, ql44, ql45, ql60, ql61])⟩ | exact ⟨by grind, h _ (by clear h; grind [q2, ql8, ql39, ql44, ql45, ql60, ql61])⟩
theorem c_X12_told {d z : Nat} {N : Nat → Nat} {I : Nat → Nat → Int32} {L : Nat → Nat → Int64} {R : Nat → Nat → Option Nat} {Q : qP} {b : Int32}  (h : ∀ v : Int32, (v = if b = 0 then 26 else b - 1) → Q (some (.int v)) (z, N, I, L, R)) : qWP (d + 1) 196 [.int b] (z, N, I, L, R) Q := by
  refine qWP_of m_X12_told rfl rfl [(0, .int b)] rfl ?_
  refine qJ_run (qWP_mono _) [] 400 ?_
  refine ⟨fun c1 => ?_, fun c1 => ?_⟩
  · first | exact h _ (by clear h; grind [q2, ql8, ql39, ql44, ql45, ql60, ql61]) | exact ⟨Or.inl rfl, h _ (by clear h; grind [q2, ql8, ql39, ql44, ql45, ql60, ql61])⟩ | exact ⟨Or.inr rfl, h _ (by clear h; grind [q2, ql8, ql39, ql44, ql45, ql60, ql61])⟩ | exact ⟨by grind, h _ (by clear h; grind [q2, ql8, ql39, ql44, ql45, ql60, ql61])⟩
  · first | exact h _ (by clear h; grind [q2, ql8, ql39, ql44, ql45, ql60, ql61]) | exact ⟨Or.inl rfl, h _ (by clear h; grind [q2, ql8, ql39, ql44, ql45, ql60, ql61])⟩ | exact ⟨Or.inr rfl, h _ (by clear h; grind [q2, ql8, ql39, ql44, ql45, ql60, ql61])⟩ | exact ⟨by grind, h _ (by clear h; grind [q2, ql8, ql39, ql44, ql45, ql60, ql61])⟩
theorem c_X12_edgeAt {d z : Nat} {N : Nat → Nat} {I : Nat → Nat → Int32} {L : Nat → Nat → Int64} {R : Nat → Nat → Option Nat} {Q : qP} {s : Int32} {e : Int32} {l : Int32}  (h : ∀ v : Int32, v = (2 * s + e) * 4 + l → Q (some (.int v)) (z, N, I, L, R)) : qWP (d + 1) 206 [.int s, .int e, .int l] (z, N, I, L, R) Q := by
  refine qWP_of m_X12_edgeAt rfl rfl [(0, .int s), (1, .int e), (2, .int l)] rfl ?_
  refine qJ_run (qWP_mono _) [] 400 ?_
  first | exact h _ (by clear h; grind [q2, ql8, ql39, ql44, ql45, ql60, ql61]) | exact ⟨Or.inl rfl, h _ (by clear h; grind [q2, ql8, ql39, ql44, ql45, ql60, ql61])⟩ | exact ⟨Or.inr rfl, h _ (by clear h; grind [q2, ql8, ql39, ql44, ql45, ql60, ql61])⟩ | exact ⟨by grind, h _ (by clear h; grind [q2, ql8, ql39, ql44, ql45, ql60, ql61])⟩
theorem c_X12_isSign {d z : Nat} {N : Nat → Nat} {I : Nat → Nat → Int32} {L : Nat → Nat → Int64} {R : Nat → Nat → Option Nat} {Q : qP} {b : Int32}  (h : ∀ v : Int32, (v = if (97 ≤ b ∧ b ≤ 122) ∨ b = 95 then 1 else 0) → Q (some (.int v)) (z, N, I, L, R)) : qWP (d + 2) 237 [.int b] (z, N, I, L, R) Q := by
  refine qWP_of m_X12_isSign rfl rfl [(0, .int b)] rfl ?_
  refine qJ_run (qWP_mono _) [] 400 ?_
  refine ⟨⟨Nat.le_refl _, Nat.le_refl _⟩, ?_⟩
  refine c_X12_isLetter fun v hv => ?_
  refine ⟨fun c1 => ?_, fun c1 => ?_⟩
  · first | exact h _ (by clear h; grind [q2, ql8, ql39, ql44, ql45, ql60, ql61]) | exact ⟨Or.inl rfl, h _ (by clear h; grind [q2, ql8, ql39, ql44, ql45, ql60, ql61])⟩ | exact ⟨Or.inr rfl, h _ (by clear h; grind [q2, ql8, ql39, ql44, ql45, ql60, ql61])⟩ | exact ⟨by grind, h _ (by clear h; grind [q2, ql8, ql39, ql44, ql45, ql60, ql61])⟩
  · refine ⟨fun c2 => ?_, fun c2 => ?_⟩
    · first | exact h _ (by clear h; grind [q2, ql8, ql39, ql44, ql45, ql60, ql61]) | exact ⟨Or.inl rfl, h _ (by clear h; grind [q2, ql8, ql39, ql44, ql45, ql60, ql61])⟩ | exact ⟨Or.inr rfl, h _ (by clear h; grind [q2, ql8, ql39, ql44, ql45, ql60, ql61])⟩ | exact ⟨by grind, h _ (by clear h; grind [q2, ql8, ql39, ql44, ql45, ql60, ql61])⟩
    · first | exact h _ (by clear h; grind [q2, ql8, ql39, ql44, ql45, ql60, ql61]) | exact ⟨Or.inl rfl, h _ (by clear h; grind [q2, ql8, ql39, ql44, ql45, ql60, ql61])⟩ | exact ⟨Or.inr rfl, h _ (by clear h; grind [q2, ql8, ql39, ql44, ql45, ql60, ql61])⟩ | exact ⟨by grind, h _ (by clear h; grind [q2, ql8, ql39, ql44, ql45, ql60, ql61])⟩
