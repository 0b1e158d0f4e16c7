/-! formulas: what a set of the class holds -/
def rowL (e : Nat → Int64) (l : List Nat) : Prop := ∀ i, i < l.length → l.getD i 0 < 2 ^ 120 ∧ e (2 * i) = lN (l.getD i 0 / 2 ^ 60) ∧ e (2 * i + 1) = lN (l.getD i 0 % 2 ^ 60)
theorem sHd_n {n k : Nat} {hl : Nat → Int64} (hn : n ≤ 200) (hk : k < n) : sHd (nI n) hl (nI k) = hl (2 * k) ∧ sTl (nI n) hl (nI k) = hl (2 * k + 1) := by
  unfold sHd sTl
  have h : 0 ≤ nI k ∧ nI k < nI n := ⟨nI_pos' (by omega), nI_lt hk (by omega)⟩
  have e2 : 2 * nI k = nI (2 * k) := pk_mul 2 k
  rw [if_pos h, if_pos h, e2, nI_1, nI_clamp (by omega), nI_clamp (by omega)]
  exact ⟨rfl, rfl⟩
/-- two texts' longs in order -/
theorem lx_lt {J K : Nat} (hJ : J < 2 ^ 120) (hK : K < 2 ^ 120) : (lN (J / 2 ^ 60) < lN (K / 2 ^ 60) ∨ (lN (J / 2 ^ 60) = lN (K / 2 ^ 60) ∧ lN (J % 2 ^ 60) < lN (K % 2 ^ 60))) ↔ J < K := by
  rw [pk_lLT (by omega) (by omega), pk_lEQ (by omega) (by omega), pk_lLT (by omega) (by omega)]
  omega
theorem lx_eq {J K : Nat} (hJ : J < 2 ^ 120) (hK : K < 2 ^ 120) : (lN (J / 2 ^ 60) = lN (K / 2 ^ 60) ∧ lN (J % 2 ^ 60) = lN (K % 2 ^ 60)) ↔ J = K := by
  rw [pk_lEQ (by omega) (by omega), pk_lEQ (by omega) (by omega)]
  omega
/-- the search's bounds -/
def bsI (l : List Nat) (K a e : Nat) : Prop := a ≤ e ∧ e ≤ l.length ∧ (∀ i, i < a → l.getD i 0 < K) ∧ ∀ i, e ≤ i → i < l.length → K ≤ l.getD i 0
theorem gD {l : List Nat} {i : Nat} (h : i < l.length) : l.getD i 0 = l[i] := by
  rw [List.getD_eq_getElem?_getD, List.getElem?_eq_getElem h]; rfl
theorem srt_gD {l : List Nat} (h : srt l) {i j : Nat} (hij : i < j) (hj : j < l.length) : l.getD i 0 < l.getD j 0 := by
  rw [gD hj, gD (by omega : i < l.length)]
  exact List.pairwise_iff_getElem.mp h i j (by omega) hj hij
theorem bs_up {l : List Nat} {K a e m : Nat} (hs : srt l) (h : bsI l K a e) (hm : m < e) (hk : l.getD m 0 < K) (ha : a ≤ m) : bsI l K (m + 1) e := by
  refine ⟨by omega, h.2.1, fun i hi => ?_, h.2.2.2⟩
  by_cases h9 : i = m
  · rw [h9]; exact hk
  · have := srt_gD hs (i := i) (j := m) (by omega) (by have := h.2.1; omega); omega
theorem bs_dn {l : List Nat} {K a e m : Nat} (hs : srt l) (h : bsI l K a e) (hm : m < e) (hk : ¬ l.getD m 0 < K) (ha : a ≤ m) : bsI l K a m := by
  refine ⟨ha, by have := h.2.1; omega, h.2.2.1, fun i hi hl => ?_⟩
  by_cases h9 : i = m
  · rw [h9]; omega
  · have := srt_gD hs (i := m) (j := i) (by omega) hl; omega
theorem bs_mem {l : List Nat} {K a : Nat} (hs : srt l) (h : bsI l K a a) : K ∈ l ↔ a < l.length ∧ l.getD a 0 = K := by
  constructor
  · intro hm
    obtain ⟨i, hi, e⟩ := List.mem_iff_getElem.mp hm
    rw [← gD hi] at e
    have h1 := h.2.2.1 i
    by_cases h2 : i < a
    · have := h1 h2; omega
    · have h3 := h.2.2.2 a (by omega) (by omega)
      by_cases h4 : i = a
      · subst h4; exact ⟨hi, e⟩
      · have := srt_gD hs (i := a) (j := i) (by omega) hi; omega
  · rintro ⟨h1, h2⟩
    rw [gD h1] at h2
    rw [← h2]; exact List.getElem_mem h1
theorem bs_ins {l : List Nat} {K a : Nat} (hs : srt l) (h : bsI l K a a) (hm : K ∉ l) : ins K l = l.take a ++ K :: l.drop a :=
  ins_at l a h.2.1 hs hm (fun i hi h1 => by rw [← gD hi]; exact h.2.2.1 i h1) (fun i hi h1 => by rw [← gD hi]; exact h.2.2.2 i h1 hi)
theorem tk_gD {l : List Nat} {K a i : Nat} (ha : a ≤ l.length) : (l.take a ++ K :: l.drop a).getD i 0 = if i < a then l.getD i 0 else if i = a then K else l.getD (i - 1) 0 := by
  have hl : (l.take a).length = a := by rw [List.length_take]; omega
  simp only [List.getD_eq_getElem?_getD]
  by_cases h1 : i < a
  · rw [if_pos h1, List.getElem?_append_left (by omega), List.getElem?_take_of_lt h1]
  · rw [if_neg h1, List.getElem?_append_right (by omega), hl]
    by_cases h2 : i = a
    · subst h2; rw [if_pos rfl, Nat.sub_self]; rfl
    · rw [if_neg h2]
      obtain ⟨k, hk⟩ : ∃ k, i - a = k + 1 := ⟨i - a - 1, by omega⟩
      rw [hk, List.getElem?_cons_succ, List.getElem?_drop, show a + k = i - 1 by omega]
theorem row_ins {l : List Nat} {K a : Nat} {f : Nat → Int64} (hf : rowL f l) (ha : a ≤ l.length) (hK : K < 2 ^ 120) : rowL (uI (uI (va_cpy f f (2 * a) (2 * a + 2) (2 * (l.length - a))) (2 * a) (lN (K / 2 ^ 60))) (2 * a + 1) (lN (K % 2 ^ 60))) (l.take a ++ K :: l.drop a) := by
  intro i hi
  rw [tk_gD ha]
  have hl : (l.take a ++ K :: l.drop a).length = l.length + 1 := by simp; omega
  rw [hl] at hi
  by_cases h1 : i < a
  · rw [if_pos h1, uI_nj (by omega), uI_nj (by omega), uI_nj (by omega), uI_nj (by omega), pk_cpy_out (by omega), pk_cpy_out (by omega)]
    exact hf i (by omega)
  · rw [if_neg h1]
    by_cases h2 : i = a
    · subst h2
      rw [if_pos rfl, uI_nj (by omega), uI_at, uI_at]
      exact ⟨hK, rfl, rfl⟩
    · have g := hf (i - 1) (by omega)
      rw [if_neg h2, uI_nj (by omega), uI_nj (by omega), uI_nj (by omega), uI_nj (by omega), pk_cpy_in (by omega) (by omega), pk_cpy_in (by omega) (by omega), show 2 * a + (2 * i - (2 * a + 2)) = 2 * (i - 1) by omega, show 2 * a + (2 * i + 1 - (2 * a + 2)) = 2 * (i - 1) + 1 by omega]
      exact g
theorem lg_ge {a b : Int64} : 0 ≤ lg_cmp a b ↔ ¬ a < b := by
  rw [← lg_lt]
  exact Int32.not_lt.symm
theorem st_cp {T : qT} {cs : qC} {Q : qP} {X : qX} {pc l a : Nat} {ls : List (Nat × Value)} {sp dp n : Int32} {uc us : Nat} {M : qM} (hq : qFindB (qBl T) pc = some (.invokestatic 9998, l)) (hk : qK a = 15) (hz : qSz a = none) (hl : a < M.1 + 2) (hc : ¬ sp < 0 ∧ ¬ dp < 0 ∧ ¬ n < 0 ∧ sp.toNatClampNeg + n.toNatClampNeg ≤ M.2.1 a ∧ dp.toNatClampNeg + n.toNatClampNeg ≤ M.2.1 a) (hx : X (pc + l) ls [] uc us (M.1, M.2.1, M.2.2.1, qRow M.2.2.2.1 a (va_cpy (M.2.2.2.1 a) (M.2.2.2.1 a) sp.toNatClampNeg dp.toNatClampNeg n.toNatClampNeg), M.2.2.2.2)) : qStep T cs Q X pc ls [.int n, .int dp, .ref a, .int sp, .ref a] uc us M := by
  unfold qStep
  rw [hq]
  refine qIs_i hk (qIs_i hk (qIn_i hl (qIn_i hl ⟨?_, hx⟩)))
  rw [qLen_n hz]
  exact hc
theorem l_X9_add3 {d z : Nat} {N : Nat → Nat} {I : Nat → Nat → Int32} {L : Nat → Nat → Int64} {R : Nat → Nat → Option Nat} {Q : qP} {h r : Nat} (hk : qK h = 9) (hk1 : qK (h + 1) = 15) (hz : qSz (h + 1) = none) (hlt : h + 1 < z + 2) {l : List Nat} {K : Nat} (hN : N (h + 1) = 2 * r) (hr : r ≤ 200) (hI : I h 1 = nI l.length) (hlr : l.length ≤ r) (hs : srt l) (hrow : rowL (L (h + 1)) l) (hK : K < 2 ^ 120) {a : Nat} (hab : bsI l K a a) (hnm : K ∉ l) (g0 : addG ins r K l = none → Q (some (.int 0)) (z, N, I, L, R)) (g1 : ∀ l' e, addG ins r K l = some l' → rowL e l' → Q (some (.int 1)) (z, N, q2 I h 1 (nI l'.length), qRow L (h + 1) e, R)) :  qJ m_X9_add (qWP (d + 2)) Q 121 [(5, .int (nI a)), (3, .long (lN (K % 2 ^ 60))), (1, .long (lN (K / 2 ^ 60))), (0, .ref h)] [] 0 0 (z, N, I, L, R) := by
  skip
  refine qJ_run (qWP_mono _) [121, 129, 137, 144, 147, 154, 162, 173, 180, 184, 192, 194, 204, 207, 212] 400 ?_
  refine br_f (show ¬ (nI a) < 0 from nI_pos (by have := hab.2.1; omega)) ?_
  change qJ m_X9_add (qWP _) Q 129 [(5, .int (nI a)), (3, .long (lN (K % 2 ^ 60))), (1, .long (lN (K / 2 ^ 60))), (0, .ref h)] [.ref h, .int (nI a)] _ _ (z, N, I, L, R)
  refine qJ_run (qWP_mono _) [121, 129, 137, 144, 147, 154, 162, 173, 180, 184, 192, 194, 204, 207, 212] 400 ?_
  refine st_get1 rfl hk (Nat.lt_of_succ_lt hlt) ?_
  refine br_f (show ¬ (I h 1) < (nI a) from by rw [hI]; exact nI_nlt hab.2.1 (by omega)) ?_
  change qJ m_X9_add (qWP _) Q 137 [(5, .int (nI a)), (3, .long (lN (K % 2 ^ 60))), (1, .long (lN (K / 2 ^ 60))), (0, .ref h)] [.ref h, .int 2] _ _ (z, N, I, L, R)
  refine qJ_run (qWP_mono _) [121, 129, 137, 144, 147, 154, 162, 173, 180, 184, 192, 194, 204, 207, 212] 400 ?_
  refine st_get1 rfl hk (Nat.lt_of_succ_lt hlt) ?_
  change qJ m_X9_add (qWP _) Q 144 [(5, .int (nI a)), (3, .long (lN (K % 2 ^ 60))), (1, .long (lN (K / 2 ^ 60))), (0, .ref h)] [.ref h, .int ((2 * (I h 1)) + 2)] _ _ (z, N, I, L, R)
  refine qJ_run (qWP_mono _) [121, 129, 137, 144, 147, 154, 162, 173, 180, 184, 192, 194, 204, 207, 212] 400 ?_
  refine st_get0 rfl rfl hk (Nat.lt_of_succ_lt hlt) ?_
  change qJ m_X9_add (qWP _) Q 147 [(5, .int (nI a)), (3, .long (lN (K % 2 ^ 60))), (1, .long (lN (K / 2 ^ 60))), (0, .ref h)] [.ref (h + 1), .int ((2 * (I h 1)) + 2)] _ _ (z, N, I, L, R)
  refine qJ_run (qWP_mono _) [121, 129, 137, 144, 147, 154, 162, 173, 180, 184, 192, 194, 204, 207, 212] 400 ?_
  refine st_len rfl hk1 hz hlt ?_
  refine ⟨fun (c3 : ((2 * (I h 1)) + 2) ≤ (Int32.ofNat (N (h + 1)))) => ?_, fun (c3 : ¬ ((2 * (I h 1)) + 2) ≤ (Int32.ofNat (N (h + 1)))) => ?_⟩
  · change qJ m_X9_add (qWP _) Q 154 [(5, .int (nI a)), (3, .long (lN (K % 2 ^ 60))), (1, .long (lN (K / 2 ^ 60))), (0, .ref h)] [.ref h] _ _ (z, N, I, L, R)
    refine qJ_run (qWP_mono _) [121, 129, 137, 144, 147, 154, 162, 173, 180, 184, 192, 194, 204, 207, 212] 400 ?_
    refine st_get0 rfl rfl hk (Nat.lt_of_succ_lt hlt) ?_
    change qJ m_X9_add (qWP _) Q 162 [(5, .int (nI a)), (3, .long (lN (K % 2 ^ 60))), (1, .long (lN (K / 2 ^ 60))), (0, .ref h)] [.ref h, .int (2 * (nI a)), .ref (h + 1)] _ _ (z, N, I, L, R)
    refine qJ_run (qWP_mono _) [121, 129, 137, 144, 147, 154, 162, 173, 180, 184, 192, 194, 204, 207, 212] 400 ?_
    refine st_get0 rfl rfl hk (Nat.lt_of_succ_lt hlt) ?_
    change qJ m_X9_add (qWP _) Q 173 [(5, .int (nI a)), (3, .long (lN (K % 2 ^ 60))), (1, .long (lN (K / 2 ^ 60))), (0, .ref h)] [.ref h, .int 2, .int ((2 * (nI a)) + 2), .ref (h + 1), .int (2 * (nI a)), .ref (h + 1)] _ _ (z, N, I, L, R)
    refine qJ_run (qWP_mono _) [121, 129, 137, 144, 147, 154, 162, 173, 180, 184, 192, 194, 204, 207, 212] 400 ?_
    refine st_get1 rfl hk (Nat.lt_of_succ_lt hlt) ?_
    change qJ m_X9_add (qWP _) Q 180 [(5, .int (nI a)), (3, .long (lN (K % 2 ^ 60))), (1, .long (lN (K / 2 ^ 60))), (0, .ref h)] [.int (2 * ((I h 1) - (nI a))), .int ((2 * (nI a)) + 2), .ref (h + 1), .int (2 * (nI a)), .ref (h + 1)] _ _ (z, N, I, L, R)
    refine qJ_run (qWP_mono _) [121, 129, 137, 144, 147, 154, 162, 173, 180, 184, 192, 194, 204, 207, 212] 400 ?_
    have h8 := hab.2.1
    have hlr2 : ¬ r ≤ l.length := by
      have e8 : 2 * I h 1 + 2 = nI (2 * l.length + 2) := by rw [hI, show 2 * nI l.length = nI (2 * l.length) from pk_mul 2 _]; exact nI_add _ 2
      have c8 := c3
      rw [e8, hN] at c8
      replace c8 : nI (2 * l.length + 2) ≤ nI (2 * r) := c8
      rw [nI_leI (by omega) (by omega)] at c8
      omega
    have em : nI 2 * (I h 1 - nI a) = nI (2 * (l.length - a)) := by rw [hI, pk_sub (by omega), pk_mul]
    have ea : 2 * nI a = nI (2 * a) := pk_mul 2 a
    have ea2 : 2 * nI a + 2 = nI (2 * a + 2) := by rw [ea]; exact nI_add _ 2
    replace em : 2 * (I h 1 - nI a) = nI (2 * (l.length - a)) := em
    have hcp : ¬ 2 * nI a < 0 ∧ ¬ 2 * nI a + 2 < 0 ∧ ¬ 2 * (I h 1 - nI a) < 0 ∧ (2 * nI a).toNatClampNeg + (2 * (I h 1 - nI a)).toNatClampNeg ≤ N (h + 1) ∧ (2 * nI a + 2).toNatClampNeg + (2 * (I h 1 - nI a)).toNatClampNeg ≤ N (h + 1) := by
      rw [ea2, ea, em, nI_clamp (by omega), nI_clamp (by omega), nI_clamp (by omega), hN]; exact ⟨nI_pos (by omega), nI_pos (by omega), nI_pos (by omega), by omega, by omega⟩
    refine st_cp (M := (z, N, I, L, R)) (a := h + 1) (sp := 2 * nI a) (dp := 2 * nI a + 2) (n := 2 * (I h 1 - nI a)) rfl hk1 hz hlt hcp ?_
    change qJ m_X9_add (qWP _) Q 184 [(5, .int (nI a)), (3, .long (lN (K % 2 ^ 60))), (1, .long (lN (K / 2 ^ 60))), (0, .ref h)] [.ref h] _ _ (z, N, I, (qRow L (h + 1) (va_cpy (L (h + 1)) (L (h + 1)) (2 * nI a).toNatClampNeg (2 * nI a + 2).toNatClampNeg (2 * (I h 1 - nI a)).toNatClampNeg)), R)
    refine qJ_run (qWP_mono _) [121, 129, 137, 144, 147, 154, 162, 173, 180, 184, 192, 194, 204, 207, 212] 400 ?_
    refine st_get0 rfl rfl hk (Nat.lt_of_succ_lt hlt) ?_
    change qJ m_X9_add (qWP _) Q 192 [(5, .int (nI a)), (3, .long (lN (K % 2 ^ 60))), (1, .long (lN (K / 2 ^ 60))), (0, .ref h)] [.long (lN (K / 2 ^ 60)), .int (2 * (nI a)), .ref (h + 1)] _ _ (z, N, I, (qRow L (h + 1) (va_cpy (L (h + 1)) (L (h + 1)) (2 * nI a).toNatClampNeg (2 * nI a + 2).toNatClampNeg (2 * (I h 1 - nI a)).toNatClampNeg)), R)
    refine qJ_run (qWP_mono _) [121, 129, 137, 144, 147, 154, 162, 173, 180, 184, 192, 194, 204, 207, 212] 400 ?_
    refine st_last rfl hk1 hz hlt ?_ ?_
    · have h8 := hab.2.1
      have hlr2 : ¬ r ≤ l.length := by
        have e8 : 2 * I h 1 + 2 = nI (2 * l.length + 2) := by rw [hI, show 2 * nI l.length = nI (2 * l.length) from pk_mul 2 _]; exact nI_add _ 2
        have c8 := c3
        rw [e8, hN] at c8
        replace c8 : nI (2 * l.length + 2) ≤ nI (2 * r) := c8
        rw [nI_leI (by omega) (by omega)] at c8
        omega
      dsimp only
      rw [hN]
      first | (rw [ea]; exact vp_in_nI (by omega) (by omega)) | (rw [ea, nI_1]; exact vp_in_nI (by omega) (by omega))
    change qJ m_X9_add (qWP _) Q 194 [(5, .int (nI a)), (3, .long (lN (K % 2 ^ 60))), (1, .long (lN (K / 2 ^ 60))), (0, .ref h)] [.ref h] _ _ (z, N, I, q2 (qRow L (h + 1) (va_cpy (L (h + 1)) (L (h + 1)) (2 * nI a).toNatClampNeg (2 * nI a + 2).toNatClampNeg (2 * (I h 1 - nI a)).toNatClampNeg)) (h + 1) ((2 * (nI a)).toNatClampNeg) (lN (K / 2 ^ 60)), R)
    refine qJ_run (qWP_mono _) [121, 129, 137, 144, 147, 154, 162, 173, 180, 184, 192, 194, 204, 207, 212] 400 ?_
    refine st_get0 rfl rfl hk (Nat.lt_of_succ_lt hlt) ?_
    change qJ m_X9_add (qWP _) Q 204 [(5, .int (nI a)), (3, .long (lN (K % 2 ^ 60))), (1, .long (lN (K / 2 ^ 60))), (0, .ref h)] [.long (lN (K % 2 ^ 60)), .int ((2 * (nI a)) + 1), .ref (h + 1)] _ _ (z, N, I, q2 (qRow L (h + 1) (va_cpy (L (h + 1)) (L (h + 1)) (2 * nI a).toNatClampNeg (2 * nI a + 2).toNatClampNeg (2 * (I h 1 - nI a)).toNatClampNeg)) (h + 1) ((2 * (nI a)).toNatClampNeg) (lN (K / 2 ^ 60)), R)
    refine qJ_run (qWP_mono _) [121, 129, 137, 144, 147, 154, 162, 173, 180, 184, 192, 194, 204, 207, 212] 400 ?_
    refine st_last rfl hk1 hz hlt ?_ ?_
    · have h8 := hab.2.1
      have hlr2 : ¬ r ≤ l.length := by
        have e8 : 2 * I h 1 + 2 = nI (2 * l.length + 2) := by rw [hI, show 2 * nI l.length = nI (2 * l.length) from pk_mul 2 _]; exact nI_add _ 2
        have c8 := c3
        rw [e8, hN] at c8
        replace c8 : nI (2 * l.length + 2) ≤ nI (2 * r) := c8
        rw [nI_leI (by omega) (by omega)] at c8
        omega
      dsimp only
      rw [hN]
      first | (rw [ea]; exact vp_in_nI (by omega) (by omega)) | (rw [ea, nI_1]; exact vp_in_nI (by omega) (by omega))
    change qJ m_X9_add (qWP _) Q 207 [(5, .int (nI a)), (3, .long (lN (K % 2 ^ 60))), (1, .long (lN (K / 2 ^ 60))), (0, .ref h)] [.ref h, .ref h] _ _ (z, N, I, q2 (q2 (qRow L (h + 1) (va_cpy (L (h + 1)) (L (h + 1)) (2 * nI a).toNatClampNeg (2 * nI a + 2).toNatClampNeg (2 * (I h 1 - nI a)).toNatClampNeg)) (h + 1) ((2 * (nI a)).toNatClampNeg) (lN (K / 2 ^ 60))) (h + 1) (((2 * (nI a)) + 1).toNatClampNeg) (lN (K % 2 ^ 60)), R)
    refine qJ_run (qWP_mono _) [121, 129, 137, 144, 147, 154, 162, 173, 180, 184, 192, 194, 204, 207, 212] 400 ?_
    refine st_get1 rfl hk (Nat.lt_of_succ_lt hlt) ?_
    change qJ m_X9_add (qWP _) Q 212 [(5, .int (nI a)), (3, .long (lN (K % 2 ^ 60))), (1, .long (lN (K / 2 ^ 60))), (0, .ref h)] [.int ((I h 1) + 1), .ref h] _ _ (z, N, I, q2 (q2 (qRow L (h + 1) (va_cpy (L (h + 1)) (L (h + 1)) (2 * nI a).toNatClampNeg (2 * nI a + 2).toNatClampNeg (2 * (I h 1 - nI a)).toNatClampNeg)) (h + 1) ((2 * (nI a)).toNatClampNeg) (lN (K / 2 ^ 60))) (h + 1) (((2 * (nI a)) + 1).toNatClampNeg) (lN (K % 2 ^ 60)), R)
    refine qJ_run (qWP_mono _) [121, 129, 137, 144, 147, 154, 162, 173, 180, 184, 192, 194, 204, 207, 212] 400 ?_
    refine st_put1 rfl hk (Nat.lt_of_succ_lt hlt) ?_
    refine ⟨by first | exact Or.inl rfl | exact Or.inr rfl | (clear g0 g1; grind), ?_⟩
    change Q (some (.int 1)) (z, N, q2 I h 1 ((I h 1) + 1), q2 (q2 (qRow L (h + 1) (va_cpy (L (h + 1)) (L (h + 1)) (2 * nI a).toNatClampNeg (2 * nI a + 2).toNatClampNeg (2 * (I h 1 - nI a)).toNatClampNeg)) (h + 1) ((2 * (nI a)).toNatClampNeg) (lN (K / 2 ^ 60))) (h + 1) (((2 * (nI a)) + 1).toNatClampNeg) (lN (K % 2 ^ 60)), R)
    have h8 := hab.2.1
    have hlr2 : ¬ r ≤ l.length := by
      have e8 : 2 * I h 1 + 2 = nI (2 * l.length + 2) := by rw [hI, show 2 * nI l.length = nI (2 * l.length) from pk_mul 2 _]; exact nI_add _ 2
      have c8 := c3
      rw [e8, hN] at c8
      replace c8 : nI (2 * l.length + 2) ≤ nI (2 * r) := c8
      rw [nI_leI (by omega) (by omega)] at c8
      omega
    have h9 := g1 _ _ (by unfold addG; rw [if_neg hnm, if_neg hlr2]) (by rw [bs_ins hs hab hnm]; exact row_ins hrow h8 hK)
    rw [(pc_ins K l).length_eq, List.length_cons] at h9
    have e1 : I h 1 + 1 = nI (l.length + 1) := by rw [hI, nI_1]
    have ea3 : 2 * nI a + 1 = nI (2 * a + 1) := by rw [ea, nI_1]
    rw [e1, ea2, ea3, ea, em, nI_clamp (by omega), nI_clamp (by omega), nI_clamp (by omega), nI_clamp (by omega), q2_qRow, q2_qRow]
    exact h9
  · refine ⟨by first | exact Or.inl rfl | exact Or.inr rfl | (clear g0 g1; grind), ?_⟩
    change Q (some (.int 0)) (z, N, I, L, R)
    have h8 := hab.2.1
    have hlr2 :  r ≤ l.length := by
      have e8 : 2 * I h 1 + 2 = nI (2 * l.length + 2) := by rw [hI, show 2 * nI l.length = nI (2 * l.length) from pk_mul 2 _]; exact nI_add _ 2
      have c8 := c3
      rw [e8, hN] at c8
      replace c8 : ¬ nI (2 * l.length + 2) ≤ nI (2 * r) := c8
      rw [nI_leI (by omega) (by omega)] at c8
      omega
    exact g0 (by unfold addG; rw [if_neg hnm, if_pos hlr2])
theorem l_X9_add2 {d z : Nat} {N : Nat → Nat} {I : Nat → Nat → Int32} {L : Nat → Nat → Int64} {R : Nat → Nat → Option Nat} {Q : qP} {h r : Nat} (hk : qK h = 9) (hk1 : qK (h + 1) = 15) (hz : qSz (h + 1) = none) (hlt : h + 1 < z + 2) {l : List Nat} {K : Nat} (hN : N (h + 1) = 2 * r) (hr : r ≤ 200) (hI : I h 1 = nI l.length) (hlr : l.length ≤ r) (hs : srt l) (hrow : rowL (L (h + 1)) l) (hK : K < 2 ^ 120) {a : Nat} (hab : bsI l K a a) (g0 : addG ins r K l = none → Q (some (.int 0)) (z, N, I, L, R)) (g1 : ∀ l' e, addG ins r K l = some l' → rowL e l' → Q (some (.int 1)) (z, N, q2 I h 1 (nI l'.length), qRow L (h + 1) e, R)) :  qJ m_X9_add (qWP (d + 2)) Q 88 [(5, .int (nI a)), (3, .long (lN (K % 2 ^ 60))), (1, .long (lN (K / 2 ^ 60))), (0, .ref h)] [] 0 0 (z, N, I, L, R) := by
  skip
  refine qJ_run (qWP_mono _) [88, 91, 100, 111, 121] 400 ?_
  change qJ m_X9_add (qWP _) Q 91 [(5, .int (nI a)), (3, .long (lN (K % 2 ^ 60))), (1, .long (lN (K / 2 ^ 60))), (0, .ref h)] [.ref h, .int (nI a)] _ _ (z, N, I, L, R)
  refine qJ_run (qWP_mono _) [88, 91, 100, 111, 121] 400 ?_
  refine st_get1 rfl hk (Nat.lt_of_succ_lt hlt) ?_
  refine ⟨fun (c1 : (I h 1) ≤ (nI a)) => ?_, fun (c1 : ¬ (I h 1) ≤ (nI a)) => ?_⟩
  · have hnm : K ∉ l := fun h9 => by
      have h8 := ((bs_mem hs hab).mp h9).1
      have c8 := c1
      rw [hI, nI_leI (by omega) (by have := hab.2.1; omega)] at c8
      omega
    exact l_X9_add3 (d := d) hk hk1 hz hlt hN hr hI hlr hs hrow hK hab hnm g0 g1
  · change qJ m_X9_add (qWP _) Q 100 [(5, .int (nI a)), (3, .long (lN (K % 2 ^ 60))), (1, .long (lN (K / 2 ^ 60))), (0, .ref h)] [.int (nI a), .ref h] _ _ (z, N, I, L, R)
    refine qJ_run (qWP_mono _) [88, 91, 100, 111, 121] 400 ?_
    refine st_call rfl (fun _ h => h) hk rfl (Nat.lt_of_succ_lt hlt) ?_
    refine ⟨⟨Nat.le_refl _, Nat.le_refl _⟩, ?_⟩
    have hal : a < l.length := by
      have c8 := c1
      rw [hI, nI_leI (by omega) (by have := hab.2.1; omega)] at c8
      omega
    refine c_X9_head hk hk1 hz hlt (by rw [hI]; exact ⟨nI_pos' (by omega), show nI l.length ≤ nI 200 from nI_le (by omega) (by omega)⟩) (by rw [hI, hN, nI_clamp (by omega)]; omega) fun v1 hv1 => ?_
    rw [hI, (sHd_n (by omega) hal).1, (hrow a hal).2.1] at hv1
    subst hv1
    refine ⟨fun (c2 : ¬ (lg_cmp (lN (l.getD a 0 / 2 ^ 60)) (lN (K / 2 ^ 60))) = 0) => ?_, fun (c2 : (lg_cmp (lN (l.getD a 0 / 2 ^ 60)) (lN (K / 2 ^ 60))) = 0) => ?_⟩
    · simp only [lg_eq] at *
      have hnm : K ∉ l := fun h9 => by
        have h8 := ((bs_mem hs hab).mp h9).2
        have h7 := (lx_eq (hrow a hal).1 hK).mpr h8
        first | exact absurd h7.1 (by assumption) | exact absurd h7.2 (by assumption)
      exact l_X9_add3 (d := d) hk hk1 hz hlt hN hr hI hlr hs hrow hK hab hnm g0 g1
    · change qJ m_X9_add (qWP _) Q 111 [(5, .int (nI a)), (3, .long (lN (K % 2 ^ 60))), (1, .long (lN (K / 2 ^ 60))), (0, .ref h)] [.int (nI a), .ref h] _ _ (z, N, I, L, R)
      refine qJ_run (qWP_mono _) [88, 91, 100, 111, 121] 400 ?_
      refine st_call rfl (fun _ h => h) hk rfl (Nat.lt_of_succ_lt hlt) ?_
      refine ⟨⟨Nat.le_refl _, Nat.le_refl _⟩, ?_⟩
      refine c_X9_tail hk hk1 hz hlt (by rw [hI]; exact ⟨nI_pos' (by omega), show nI l.length ≤ nI 200 from nI_le (by omega) (by omega)⟩) (by rw [hI, hN, nI_clamp (by omega)]; omega) fun v2 hv2 => ?_
      rw [hI, (sHd_n (by omega) hal).2, (hrow a hal).2.2] at hv2
      subst hv2
      refine ⟨fun (c3 : ¬ (lg_cmp (lN (l.getD a 0 % 2 ^ 60)) (lN (K % 2 ^ 60))) = 0) => ?_, fun (c3 : (lg_cmp (lN (l.getD a 0 % 2 ^ 60)) (lN (K % 2 ^ 60))) = 0) => ?_⟩
      · simp only [lg_eq] at *
        have hnm : K ∉ l := fun h9 => by
          have h8 := ((bs_mem hs hab).mp h9).2
          have h7 := (lx_eq (hrow a hal).1 hK).mpr h8
          first | exact absurd h7.1 (by assumption) | exact absurd h7.2 (by assumption)
        exact l_X9_add3 (d := d) hk hk1 hz hlt hN hr hI hlr hs hrow hK hab hnm g0 g1
      · refine ⟨by first | exact Or.inl rfl | exact Or.inr rfl | (clear g0 g1; grind), ?_⟩
        change Q (some (.int 1)) (z, N, I, L, R)
        simp only [lg_eq] at *
        have hae0 := (lx_eq (hrow a hal).1 hK).mp ⟨by assumption, by assumption⟩
        have hae : l.getD a 0 = K ∧ True := ⟨hae0, trivial⟩
        have hm : K ∈ l := (bs_mem hs hab).mpr ⟨hal, hae.1⟩
        have h9 := g1 l (L (h + 1)) (by unfold addG; rw [if_pos hm]) hrow
        rw [← hI, q2_self, qRow_self] at h9
        exact h9
theorem l_X9_add1 {d z : Nat} {N : Nat → Nat} {I : Nat → Nat → Int32} {L : Nat → Nat → Int64} {R : Nat → Nat → Option Nat} {Q : qP} {h r : Nat} (hk : qK h = 9) (hk1 : qK (h + 1) = 15) (hz : qSz (h + 1) = none) (hlt : h + 1 < z + 2) {l : List Nat} {K : Nat} (hN : N (h + 1) = 2 * r) (hr : r ≤ 200) (hI : I h 1 = nI l.length) (hlr : l.length ≤ r) (hs : srt l) (hrow : rowL (L (h + 1)) l) (hK : K < 2 ^ 120) (g0 : addG ins r K l = none → Q (some (.int 0)) (z, N, I, L, R)) (g1 : ∀ l' e, addG ins r K l = some l' → rowL e l' → Q (some (.int 1)) (z, N, q2 I h 1 (nI l'.length), qRow L (h + 1) e, R)) : ∀ (m s a e : Nat), s + m = 200 → e ≤ a + m → bsI l K a e → qJ m_X9_add (qWP (d + 2)) Q 12 [(7, .int (nI s)), (6, .int (nI e)), (5, .int (nI a)), (3, .long (lN (K % 2 ^ 60))), (1, .long (lN (K / 2 ^ 60))), (0, .ref h)] [] 0 0 (z, N, I, L, R) := by
  refine nat_ind fun m ih => ?_
  intro s a e hsm hem hab
  refine qJ_run (qWP_mono _) [4, 12, 39, 50, 61, 88] 400 ?_
  refine ⟨fun (c1 : 200 ≤ (nI s)) => ?_, fun (c1 : ¬ 200 ≤ (nI s)) => ?_⟩
  · refine qJ_nm (qWP_mono _) [(7, _), (6, _)] [(5, .int (nI a)), (3, .long (lN (K % 2 ^ 60))), (1, .long (lN (K / 2 ^ 60))), (0, .ref h)] rfl rfl rfl ?_
    have e9 : a = e := by
      have h9 := hab.1
      have h8 := hab.2.1
      first
      | (have c8 := c1; rw [nI_leI (by omega) (by omega)] at c8; omega)
      | (have c8 := c1; replace c8 : nI 200 ≤ nI s := c8; rw [nI_leI (by omega) (by omega)] at c8; omega)
    subst e9
    exact l_X9_add2 (d := d) hk hk1 hz hlt hN hr hI hlr hs hrow hK hab g0 g1
  · refine ⟨fun (c2 : (nI e) ≤ (nI a)) => ?_, fun (c2 : ¬ (nI e) ≤ (nI a)) => ?_⟩
    · refine qJ_nm (qWP_mono _) [(7, _), (6, _)] [(5, .int (nI a)), (3, .long (lN (K % 2 ^ 60))), (1, .long (lN (K / 2 ^ 60))), (0, .ref h)] rfl rfl rfl ?_
      have e9 : a = e := by
        have h9 := hab.1
        have h8 := hab.2.1
        first
        | (have c8 := c2; rw [nI_leI (by omega) (by omega)] at c8; omega)
        | (have c8 := c2; replace c8 : nI 200 ≤ nI s := c8; rw [nI_leI (by omega) (by omega)] at c8; omega)
      subst e9
      exact l_X9_add2 (d := d) hk hk1 hz hlt hN hr hI hlr hs hrow hK hab g0 g1
    · refine ⟨?_, ?_⟩
      · decide
      change qJ m_X9_add (qWP _) Q 39 [(8, .int (((nI a) + (nI e)) / 2)), (7, .int (nI s)), (6, .int (nI e)), (5, .int (nI a)), (3, .long (lN (K % 2 ^ 60))), (1, .long (lN (K / 2 ^ 60))), (0, .ref h)] [.int (((nI a) + (nI e)) / 2), .ref h] _ _ (z, N, I, L, R)
      refine qJ_run (qWP_mono _) [4, 12, 39, 50, 61, 88] 400 ?_
      refine st_call rfl (fun _ h => h) hk rfl (Nat.lt_of_succ_lt hlt) ?_
      refine ⟨⟨Nat.le_refl _, Nat.le_refl _⟩, ?_⟩
      have hae : a < e := by
        have c8 := c2
        rw [nI_leI (by have := hab.2.1; omega) (by have := hab.2.1; have := hab.1; omega)] at c8
        omega
      have h200 : e ≤ l.length := hab.2.1
      have em : (nI a + nI e) / 2 = nI ((a + e) / 2) := by rw [nI_add]; exact pk_div (by omega) (by decide) (by decide)
      have hml : (a + e) / 2 < l.length := by omega
      refine c_X9_head hk hk1 hz hlt (by rw [hI]; exact ⟨nI_pos' (by omega), show nI l.length ≤ nI 200 from nI_le (by omega) (by omega)⟩) (by rw [hI, hN, nI_clamp (by omega)]; omega) fun v1 hv1 => ?_
      rw [em, hI, (sHd_n (by omega) hml).1, (hrow _ hml).2.1] at hv1
      subst hv1
      refine ⟨fun (c3 : (lg_cmp (lN (l.getD ((a + e) / 2) 0 / 2 ^ 60)) (lN (K / 2 ^ 60))) < 0) => ?_, fun (c3 : ¬ (lg_cmp (lN (l.getD ((a + e) / 2) 0 / 2 ^ 60)) (lN (K / 2 ^ 60))) < 0) => ?_⟩
      · refine qJ_nm (qWP_mono _) [(8, _)] [(7, .int ((nI s) + 1)), (6, .int (nI e)), (5, .int ((((nI a) + (nI e)) / 2) + 1)), (3, .long (lN (K % 2 ^ 60))), (1, .long (lN (K / 2 ^ 60))), (0, .ref h)] rfl rfl rfl ?_
        simp only [lg_lt, lg_eq, lg_ge, Decidable.not_not] at *
        obtain ⟨q, rfl⟩ : ∃ q, m = q + 1 := ⟨m - 1, by omega⟩
        have hlt2 : l.getD ((a + e) / 2) 0 < K := (lx_lt (hrow _ hml).1 hK).mp (by first | exact Or.inl (by assumption) | exact Or.inr ⟨by assumption, by assumption⟩)
        rw [em, nI_1, nI_1]
        exact ih q rfl (s + 1) _ _ (by omega) (by omega) (bs_up hs hab (by omega) hlt2 (by omega))
      · change qJ m_X9_add (qWP _) Q 50 [(8, .int (((nI a) + (nI e)) / 2)), (7, .int (nI s)), (6, .int (nI e)), (5, .int (nI a)), (3, .long (lN (K % 2 ^ 60))), (1, .long (lN (K / 2 ^ 60))), (0, .ref h)] [.int (((nI a) + (nI e)) / 2), .ref h] _ _ (z, N, I, L, R)
        refine qJ_run (qWP_mono _) [4, 12, 39, 50, 61, 88] 400 ?_
        refine st_call rfl (fun _ h => h) hk rfl (Nat.lt_of_succ_lt hlt) ?_
        refine ⟨⟨Nat.le_refl _, Nat.le_refl _⟩, ?_⟩
        refine c_X9_head hk hk1 hz hlt (by rw [hI]; exact ⟨nI_pos' (by omega), show nI l.length ≤ nI 200 from nI_le (by omega) (by omega)⟩) (by rw [hI, hN, nI_clamp (by omega)]; omega) fun v2 hv2 => ?_
        rw [em, hI, (sHd_n (by omega) hml).1, (hrow _ hml).2.1] at hv2
        subst hv2
        refine ⟨fun (c4 : ¬ (lg_cmp (lN (l.getD ((a + e) / 2) 0 / 2 ^ 60)) (lN (K / 2 ^ 60))) = 0) => ?_, fun (c4 : (lg_cmp (lN (l.getD ((a + e) / 2) 0 / 2 ^ 60)) (lN (K / 2 ^ 60))) = 0) => ?_⟩
        · refine qJ_nm (qWP_mono _) [(8, _)] [(7, .int ((nI s) + 1)), (6, .int (((nI a) + (nI e)) / 2)), (5, .int (nI a)), (3, .long (lN (K % 2 ^ 60))), (1, .long (lN (K / 2 ^ 60))), (0, .ref h)] rfl rfl rfl ?_
          simp only [lg_lt, lg_eq, lg_ge, Decidable.not_not] at *
          obtain ⟨q, rfl⟩ : ∃ q, m = q + 1 := ⟨m - 1, by omega⟩
          have hlt2 : ¬ l.getD ((a + e) / 2) 0 < K := fun h9 => by
            rcases (lx_lt (hrow _ hml).1 hK).mpr h9 with h8 | h8
            · contradiction
            · first | exact absurd h8.1 (by assumption) | exact absurd h8.2 (by assumption)
          rw [em, nI_1]
          exact ih q rfl (s + 1) _ _ (by omega) (by omega) (bs_dn hs hab (by omega) hlt2 (by omega))
        · change qJ m_X9_add (qWP _) Q 61 [(8, .int (((nI a) + (nI e)) / 2)), (7, .int (nI s)), (6, .int (nI e)), (5, .int (nI a)), (3, .long (lN (K % 2 ^ 60))), (1, .long (lN (K / 2 ^ 60))), (0, .ref h)] [.int (((nI a) + (nI e)) / 2), .ref h] _ _ (z, N, I, L, R)
          refine qJ_run (qWP_mono _) [4, 12, 39, 50, 61, 88] 400 ?_
          refine st_call rfl (fun _ h => h) hk rfl (Nat.lt_of_succ_lt hlt) ?_
          refine ⟨⟨Nat.le_refl _, Nat.le_refl _⟩, ?_⟩
          refine c_X9_tail hk hk1 hz hlt (by rw [hI]; exact ⟨nI_pos' (by omega), show nI l.length ≤ nI 200 from nI_le (by omega) (by omega)⟩) (by rw [hI, hN, nI_clamp (by omega)]; omega) fun v3 hv3 => ?_
          rw [em, hI, (sHd_n (by omega) hml).2, (hrow _ hml).2.2] at hv3
          subst hv3
          refine ⟨fun (c5 : 0 ≤ (lg_cmp (lN (l.getD ((a + e) / 2) 0 % 2 ^ 60)) (lN (K % 2 ^ 60)))) => ?_, fun (c5 : ¬ 0 ≤ (lg_cmp (lN (l.getD ((a + e) / 2) 0 % 2 ^ 60)) (lN (K % 2 ^ 60)))) => ?_⟩
          · refine qJ_nm (qWP_mono _) [(8, _)] [(7, .int ((nI s) + 1)), (6, .int (((nI a) + (nI e)) / 2)), (5, .int (nI a)), (3, .long (lN (K % 2 ^ 60))), (1, .long (lN (K / 2 ^ 60))), (0, .ref h)] rfl rfl rfl ?_
            simp only [lg_lt, lg_eq, lg_ge, Decidable.not_not] at *
            obtain ⟨q, rfl⟩ : ∃ q, m = q + 1 := ⟨m - 1, by omega⟩
            have hlt2 : ¬ l.getD ((a + e) / 2) 0 < K := fun h9 => by
              rcases (lx_lt (hrow _ hml).1 hK).mpr h9 with h8 | h8
              · contradiction
              · first | exact absurd h8.1 (by assumption) | exact absurd h8.2 (by assumption)
            rw [em, nI_1]
            exact ih q rfl (s + 1) _ _ (by omega) (by omega) (bs_dn hs hab (by omega) hlt2 (by omega))
          · refine qJ_nm (qWP_mono _) [(8, _)] [(7, .int ((nI s) + 1)), (6, .int (nI e)), (5, .int ((((nI a) + (nI e)) / 2) + 1)), (3, .long (lN (K % 2 ^ 60))), (1, .long (lN (K / 2 ^ 60))), (0, .ref h)] rfl rfl rfl ?_
            simp only [lg_lt, lg_eq, lg_ge, Decidable.not_not] at *
            obtain ⟨q, rfl⟩ : ∃ q, m = q + 1 := ⟨m - 1, by omega⟩
            have hlt2 : l.getD ((a + e) / 2) 0 < K := (lx_lt (hrow _ hml).1 hK).mp (by first | exact Or.inl (by assumption) | exact Or.inr ⟨by assumption, by assumption⟩)
            rw [em, nI_1, nI_1]
            exact ih q rfl (s + 1) _ _ (by omega) (by omega) (bs_up hs hab (by omega) hlt2 (by omega))
theorem c_X9_add {d z : Nat} {N : Nat → Nat} {I : Nat → Nat → Int32} {L : Nat → Nat → Int64} {R : Nat → Nat → Option Nat} {Q : qP} {h r : Nat} (hk : qK h = 9) (hk1 : qK (h + 1) = 15) (hz : qSz (h + 1) = none) (hlt : h + 1 < z + 2) {l : List Nat} {K : Nat} (hN : N (h + 1) = 2 * r) (hr : r ≤ 200) (hI : I h 1 = nI l.length) (hlr : l.length ≤ r) (hs : srt l) (hrow : rowL (L (h + 1)) l) (hK : K < 2 ^ 120) (g0 : addG ins r K l = none → Q (some (.int 0)) (z, N, I, L, R)) (g1 : ∀ l' e, addG ins r K l = some l' → rowL e l' → Q (some (.int 1)) (z, N, q2 I h 1 (nI l'.length), qRow L (h + 1) e, R)) : qWP (d + 3) 109 [.ref h, .long (lN (K / 2 ^ 60)), .long (lN (K % 2 ^ 60))] (z, N, I, L, R) Q := by
  refine qWP_of m_X9_add rfl rfl [(0, .ref h), (1, .long (lN (K / 2 ^ 60))), (3, .long (lN (K % 2 ^ 60)))] rfl ?_
  refine qJ_run (qWP_mono _) [4, 12] 400 ?_
  change qJ m_X9_add (qWP _) Q 4 [(5, .int 0), (0, .ref h), (1, .long (lN (K / 2 ^ 60))), (3, .long (lN (K % 2 ^ 60)))] [.ref h] _ _ (z, N, I, L, R)
  refine qJ_run (qWP_mono _) [4, 12] 400 ?_
  refine st_get1 rfl hk (Nat.lt_of_succ_lt hlt) ?_
  refine qJ_nm (qWP_mono _) [] [(7, .int 0), (6, .int (I h 1)), (5, .int 0), (3, .long (lN (K % 2 ^ 60))), (1, .long (lN (K / 2 ^ 60))), (0, .ref h)] rfl rfl rfl ?_
  rw [hI, show (0 : Int32) = nI 0 from rfl]
  exact l_X9_add1 (d := d) hk hk1 hz hlt hN hr hI hlr hs hrow hK g0 g1 200 0 0 l.length rfl (by omega) ⟨by omega, Nat.le_refl _, fun i hi => by omega, fun i hi hl => by omega⟩
