/-! formulas: all of a set, pairs of two sets -/
theorem q2s {α : Type} {f : Nat → Nat → α} {a j : Nat} {v w : α} : q2 (q2 f a j v) a j w = q2 f a j w := by
  funext b i
  by_cases h : b = a
  · subst h; by_cases h2 : i = j <;> simp [q2, h2]
  · rw [q2_ne h, q2_ne h, q2_ne h]
theorem hsL_ne {I : Nat → Nat → Int32} {L : Nat → Nat → Int64} {h o : Nat} {m : List Nat} {x : Int32} {e : Nat → Int64} (hne : o ≠ h) (hC : hsL I L o m) : hsL (q2 I h 1 x) (qRow L (h + 1) e) o m := by
  unfold hsL
  rw [q2_ne hne, qRow_ne (by omega)]
  exact hC
theorem hsL_at {I : Nat → Nat → Int32} {L : Nat → Nat → Int64} {h : Nat} {l : List Nat} {e : Nat → Int64} (hr : rowL e l) (hs : srt l) : hsL (q2 I h 1 (nI l.length)) (qRow L (h + 1) e) h l := by
  unfold hsL
  rw [q2_at, qRow_at]
  exact ⟨rfl, hr, hs⟩
theorem hsL_id {I : Nat → Nat → Int32} {L : Nat → Nat → Int64} {h : Nat} {l : List Nat} (hC : hsL I L h l) : q2 I h 1 (nI l.length) = I ∧ qRow L (h + 1) (L (h + 1)) = L := by
  rw [← hC.1]
  exact ⟨q2_self, qRow_self⟩
theorem addG_len {f : Nat → List Nat → List Nat} (hf : pc f) {r K : Nat} {l l' : List Nat} (h : addG f r K l = some l') (hl : l.length ≤ r) : l'.length ≤ r := by
  unfold addG at h
  split at h
  · obtain rfl := Option.some.inj h; exact hl
  · split at h
    · exact absurd h (by simp)
    · obtain rfl := Option.some.inj h
      rw [(hf K l).length_eq, List.length_cons]
      omega
theorem addI_c {f : Nat → List Nat → List Nat} {r : Nat} (x : Option Nat) (is : List (Option Nat)) (l : List Nat) : addI f r (x :: is) l = (addI f r [x] l).bind (addI f r is) := addI_ap [x] is l
theorem drop_c {l : List Nat} {i : Nat} (h : i < l.length) : l.drop i = l.getD i 0 :: l.drop (i + 1) := by
  rw [gD h]
  exact List.drop_eq_getElem_cons h
def vS (l : List Nat) : Prop := ∀ i, i < l.length → ∃ n, vK (l.getD i 0) n
theorem addI_ok {r : Nat} {x : Option Nat} {l l' : List Nat} (h : addI ins r [x] l = some l') (hl : l.length ≤ r) (hs : srt l) : l'.length ≤ r ∧ srt l' := by
  refine ⟨?_, srt_addI _ _ hs h⟩
  cases x with
  | none => exact absurd h (by simp [addI])
  | some K => rw [addI1] at h; exact addG_len pc_ins h hl
theorem prI_c {A B : List Nat} {i : Nat} (h : i < A.length) : prI (A.drop i) B = B.map (cat (A.getD i 0)) ++ prI (A.drop (i + 1)) B := by
  rw [drop_c h]
  rfl
theorem prI_0 {A B : List Nat} {i : Nat} (h : A.length ≤ i) : prI (A.drop i) B = [] := by
  rw [List.drop_eq_nil_of_le h]
  rfl
theorem l_X9_addAll {d z : Nat} {N : Nat → Nat} {I : Nat → Nat → Int32} {L : Nat → Nat → Int64} {R : Nat → Nat → Option Nat} {Q : qP} {h r o ro : Nat} {m : List Nat} (hS : stS z N h r) (hO : stS z N o ro) (hne : o ≠ h) (hOC : hsL I L o m) (hmr : m.length ≤ ro) : ∀ (q i : Nat) (l : List Nat) (e : Nat → Int64), i + q = m.length → l.length ≤ r → srt l → rowL e l → (addI ins r ((m.drop i).map some) l = none → ∀ (n : Int32) (e' : Nat → Int64), Q (some (.int 0)) (z, N, q2 I h 1 n, qRow L (h + 1) e', R)) → (∀ l' e', addI ins r ((m.drop i).map some) l = some l' → rowL e' l' → Q (some (.int 1)) (z, N, q2 I h 1 (nI l'.length), qRow L (h + 1) e', R)) → qJ m_X9_addAll (qWP (d + 4)) Q 2 [(2, .int (nI i)), (1, .ref o), (0, .ref h)] [] 0 0 (z, N, (q2 I h 1 (nI l.length)), (qRow L (h + 1) e), R) := by
  refine nat_ind fun q ih => ?_
  intro i l e hiq hl hs hrow g0 g1
  refine qJ_run (qWP_mono _) [2, 4, 13, 18, 21] 400 ?_
  change qJ m_X9_addAll (qWP _) Q 4 [(2, .int (nI i)), (1, .ref o), (0, .ref h)] [.ref o, .int (nI i)] _ _ (z, N, (q2 I h 1 (nI l.length)), (qRow L (h + 1) e), R)
  refine qJ_run (qWP_mono _) [2, 4, 13, 18, 21] 400 ?_
  refine st_get1 rfl hO.1 (Nat.lt_of_succ_lt hO.2.2.2.1) ?_
  refine ⟨fun (c1 : ((q2 I h 1 (nI l.length)) o 1) ≤ (nI i)) => ?_, fun (c1 : ¬ ((q2 I h 1 (nI l.length)) o 1) ≤ (nI i)) => ?_⟩
  · refine ⟨by first | exact Or.inl rfl | exact Or.inr rfl | (clear ih g0 g1; grind), ?_⟩
    change Q (some (.int 1)) (z, N, (q2 I h 1 (nI l.length)), (qRow L (h + 1) e), R)
    have e0 : i = m.length := by
      have c9 := c1
      have e8 : (q2 I h 1 (nI l.length)) o 1 = nI m.length := by rw [q2_ne hne]; exact hOC.1
      rw [e8, nI_leI (by have := hO.2.2.2.2.2; omega) (by have := hO.2.2.2.2.2; omega)] at c9
      omega
    rw [e0, List.drop_length] at g1
    exact g1 l e rfl hrow
  · have hi : i < m.length := by
      refine Decidable.byContradiction fun h9 => c1 ?_
      rw [q2_ne hne, hOC.1]
      exact nI_le (by omega) (by have := hO.2.2.2.2.2; omega)
    change qJ m_X9_addAll (qWP _) Q 13 [(2, .int (nI i)), (1, .ref o), (0, .ref h)] [.int (nI i), .ref o, .ref h] _ _ (z, N, (q2 I h 1 (nI l.length)), (qRow L (h + 1) e), R)
    refine qJ_run (qWP_mono _) [2, 4, 13, 18, 21] 400 ?_
    refine st_call rfl (fun _ h => h) hO.1 rfl (Nat.lt_of_succ_lt hO.2.2.2.1) ?_
    refine ⟨⟨Nat.le_refl _, Nat.le_refl _⟩, ?_⟩
    refine c_X9_headS (d := d + 3) hO (hsL_ne hne hOC) hmr hi ?_
    change qJ m_X9_addAll (qWP _) Q 18 [(2, .int (nI i)), (1, .ref o), (0, .ref h)] [.int (nI i), .ref o, .long (lN (m.getD i 0 / 2 ^ 60)), .ref h] _ _ (z, N, (q2 I h 1 (nI l.length)), (qRow L (h + 1) e), R)
    refine qJ_run (qWP_mono _) [2, 4, 13, 18, 21] 400 ?_
    refine st_call rfl (fun _ h => h) hO.1 rfl (Nat.lt_of_succ_lt hO.2.2.2.1) ?_
    refine ⟨⟨Nat.le_refl _, Nat.le_refl _⟩, ?_⟩
    refine c_X9_tailS (d := d + 3) hO (hsL_ne hne hOC) hmr hi ?_
    change qJ m_X9_addAll (qWP _) Q 21 [(2, .int (nI i)), (1, .ref o), (0, .ref h)] [.long (lN (m.getD i 0 % 2 ^ 60)), .long (lN (m.getD i 0 / 2 ^ 60)), .ref h] _ _ (z, N, (q2 I h 1 (nI l.length)), (qRow L (h + 1) e), R)
    refine qJ_run (qWP_mono _) [2, 4, 13, 18, 21] 400 ?_
    refine st_call rfl (fun _ h => h) hS.1 rfl (Nat.lt_of_succ_lt hS.2.2.2.1) ?_
    refine ⟨⟨Nat.le_refl _, Nat.le_refl _⟩, ?_⟩
    have hKi := (hOC.2.1 i hi).1
    have hdr : (m.drop i).map some = some (m.getD i 0) :: (m.drop (i + 1)).map some := by rw [drop_c hi]; rfl
    refine c_X9_addS (d := d + 1) (l := l) (K := m.getD i 0) hS (hsL_at hrow hs) hl hKi (fun ea => ?_) (fun l2 e2 ea hr2 => ?_)
    · refine ⟨fun h => absurd h (by decide), fun _ => ?_⟩
      refine ⟨by first | exact Or.inl rfl | exact Or.inr rfl | (clear ih g0 g1; grind), ?_⟩
      change Q (some (.int 0)) (z, N, (q2 I h 1 (nI l.length)), (qRow L (h + 1) e), R)
      exact g0 (by rw [hdr, addI_c, ea]; rfl) _ _
    · rw [q2s, qRow_qRow]
      refine ⟨fun _ => ?_, fun h => absurd h (by decide)⟩
      obtain ⟨p, rfl⟩ : ∃ p, q = p + 1 := ⟨q - 1, by omega⟩
      rw [addI1] at ea
      have hq9 := ih p rfl (i + 1) l2 e2 (by omega) (addG_len pc_ins ea hl) (srt_addG hs ea) hr2 (fun e9 => g0 (by rw [hdr, addI_c, addI1, ea]; exact e9)) (fun l3 e3 e9 => g1 l3 e3 (by rw [hdr, addI_c, addI1, ea]; exact e9))
      rw [← nI_1] at hq9
      exact hq9
theorem c_X9_addAll {d z : Nat} {N : Nat → Nat} {I : Nat → Nat → Int32} {L : Nat → Nat → Int64} {R : Nat → Nat → Option Nat} {Q : qP} {h r o ro : Nat} {m : List Nat} (hS : stS z N h r) (hO : stS z N o ro) (hne : o ≠ h) (hOC : hsL I L o m) (hmr : m.length ≤ ro) {l : List Nat} (hC : hsL I L h l) (hl : l.length ≤ r) (g0 : addI ins r (m.map some) l = none → ∀ (n : Int32) (e' : Nat → Int64), Q (some (.int 0)) (z, N, q2 I h 1 n, qRow L (h + 1) e', R)) (g1 : ∀ l' e', addI ins r (m.map some) l = some l' → rowL e' l' → Q (some (.int 1)) (z, N, q2 I h 1 (nI l'.length), qRow L (h + 1) e', R)) : qWP (d + 5) 110 [.ref h, .ref o] (z, N, I, L, R) Q := by
  refine qWP_of m_X9_addAll rfl rfl [(0, .ref h), (1, .ref o)] rfl ?_
  refine qJ_run (qWP_mono _) [2, 4, 13, 18, 21] 400 ?_
  refine qJ_nm (qWP_mono _) [] [(2, .int 0), (1, .ref o), (0, .ref h)] rfl rfl rfl ?_
  refine qJ_M (M2 := (z, N, q2 I h 1 (nI l.length), qRow L (h + 1) (L (h + 1)), R)) (by rw [(hsL_id hC).1, (hsL_id hC).2]) ?_
  exact l_X9_addAll (d := d) hS hO hne hOC hmr m.length 0 l _ (Nat.zero_add _) hl hC.2.2 hC.2.1 g0 g1
theorem l_X9_addPairs1 {d z : Nat} {N : Nat → Nat} {I : Nat → Nat → Int32} {L : Nat → Nat → Int64} {R : Nat → Nat → Option Nat} {Q : qP} {h r a ra b rb : Nat} {A B : List Nat} (hst : qStat (z, N, I, L, R)) (hS : stS z N h r) (hA : stS z N a ra) (hB : stS z N b rb) (hna : a ≠ h) (hnb : b ≠ h) (hAC : hsL I L a A) (hBC : hsL I L b B) (hAr : A.length ≤ ra) (hBr : B.length ≤ rb) (hvA : vS A) (hvB : vS B) {i : Nat} (hi : i < A.length) (hnx : ∀ (l : List Nat) (e : Nat → Int64), l.length ≤ r → srt l → rowL e l → (addI ins r (prI (A.drop (i + 1)) B) l = none → ∀ (n : Int32) (e' : Nat → Int64), Q (some (.int 0)) (z, N, q2 I h 1 n, qRow L (h + 1) e', R)) → (∀ l' e', addI ins r (prI (A.drop (i + 1)) B) l = some l' → rowL e' l' → Q (some (.int 1)) (z, N, q2 I h 1 (nI l'.length), qRow L (h + 1) e', R)) → qJ m_X9_addPairs (qWP (d + 5)) Q 2 [(3, .int (nI (i + 1))), (2, .ref b), (1, .ref a), (0, .ref h)] [] 0 0 (z, N, (q2 I h 1 (nI l.length)), (qRow L (h + 1) e), R)) : ∀ (q j : Nat) (l : List Nat) (e : Nat → Int64), j + q = B.length → l.length ≤ r → srt l → rowL e l → (addI ins r ((B.drop j).map (cat (A.getD i 0)) ++ prI (A.drop (i + 1)) B) l = none → ∀ (n : Int32) (e' : Nat → Int64), Q (some (.int 0)) (z, N, q2 I h 1 n, qRow L (h + 1) e', R)) → (∀ l' e', addI ins r ((B.drop j).map (cat (A.getD i 0)) ++ prI (A.drop (i + 1)) B) l = some l' → rowL e' l' → Q (some (.int 1)) (z, N, q2 I h 1 (nI l'.length), qRow L (h + 1) e', R)) → qJ m_X9_addPairs (qWP (d + 5)) Q 13 [(4, .int (nI j)), (3, .int (nI i)), (2, .ref b), (1, .ref a), (0, .ref h)] [] 0 0 (z, N, (q2 I h 1 (nI l.length)), (qRow L (h + 1) e), R) := by
  refine nat_ind fun q ih => ?_
  intro j l e hjq hl hs hrow g0 g1
  refine qJ_run (qWP_mono _) [2, 4, 13, 16, 25, 30, 36, 42, 45] 400 ?_
  change qJ m_X9_addPairs (qWP _) Q 16 [(4, .int (nI j)), (3, .int (nI i)), (2, .ref b), (1, .ref a), (0, .ref h)] [.ref b, .int (nI j)] _ _ (z, N, (q2 I h 1 (nI l.length)), (qRow L (h + 1) e), R)
  refine qJ_run (qWP_mono _) [2, 4, 13, 16, 25, 30, 36, 42, 45] 400 ?_
  refine st_get1 rfl hB.1 (Nat.lt_of_succ_lt hB.2.2.2.1) ?_
  refine ⟨fun (c1 : ((q2 I h 1 (nI l.length)) b 1) ≤ (nI j)) => ?_, fun (c1 : ¬ ((q2 I h 1 (nI l.length)) b 1) ≤ (nI j)) => ?_⟩
  · have hj : j = B.length := by
      have c9 := c1
      have e8 : (q2 I h 1 (nI l.length)) b 1 = nI B.length := by rw [q2_ne hnb]; exact hBC.1
      rw [e8, nI_leI (by have := hB.2.2.2.2.2; omega) (by have := hB.2.2.2.2.2; omega)] at c9
      omega
    refine qJ_nm (qWP_mono _) [(4, _)] [(3, .int ((nI i) + 1)), (2, .ref b), (1, .ref a), (0, .ref h)] rfl rfl rfl ?_
    rw [hj, List.drop_length] at g0 g1
    have hq9 := hnx l e hl hs hrow g0 g1
    rw [← nI_1] at hq9
    exact hq9
  · have hj : j < B.length := by
      refine Decidable.byContradiction fun h9 => c1 ?_
      rw [q2_ne hnb, hBC.1]
      exact nI_le (by omega) (by have := hB.2.2.2.2.2; omega)
    change qJ m_X9_addPairs (qWP _) Q 25 [(4, .int (nI j)), (3, .int (nI i)), (2, .ref b), (1, .ref a), (0, .ref h)] [.int (nI i), .ref a, .ref h] _ _ (z, N, (q2 I h 1 (nI l.length)), (qRow L (h + 1) e), R)
    refine qJ_run (qWP_mono _) [2, 4, 13, 16, 25, 30, 36, 42, 45] 400 ?_
    refine st_call rfl (fun _ h => h) hA.1 rfl (Nat.lt_of_succ_lt hA.2.2.2.1) ?_
    refine ⟨⟨Nat.le_refl _, Nat.le_refl _⟩, ?_⟩
    refine c_X9_headS (d := d + 4) hA (hsL_ne hna hAC) hAr hi ?_
    change qJ m_X9_addPairs (qWP _) Q 30 [(4, .int (nI j)), (3, .int (nI i)), (2, .ref b), (1, .ref a), (0, .ref h)] [.int (nI i), .ref a, .long (lN (A.getD i 0 / 2 ^ 60)), .ref h] _ _ (z, N, (q2 I h 1 (nI l.length)), (qRow L (h + 1) e), R)
    refine qJ_run (qWP_mono _) [2, 4, 13, 16, 25, 30, 36, 42, 45] 400 ?_
    refine st_call rfl (fun _ h => h) hA.1 rfl (Nat.lt_of_succ_lt hA.2.2.2.1) ?_
    refine ⟨⟨Nat.le_refl _, Nat.le_refl _⟩, ?_⟩
    refine c_X9_tailS (d := d + 4) hA (hsL_ne hna hAC) hAr hi ?_
    change qJ m_X9_addPairs (qWP _) Q 36 [(4, .int (nI j)), (3, .int (nI i)), (2, .ref b), (1, .ref a), (0, .ref h)] [.int (nI j), .ref b, .long (lN (A.getD i 0 % 2 ^ 60)), .long (lN (A.getD i 0 / 2 ^ 60)), .ref h] _ _ (z, N, (q2 I h 1 (nI l.length)), (qRow L (h + 1) e), R)
    refine qJ_run (qWP_mono _) [2, 4, 13, 16, 25, 30, 36, 42, 45] 400 ?_
    refine st_call rfl (fun _ h => h) hB.1 rfl (Nat.lt_of_succ_lt hB.2.2.2.1) ?_
    refine ⟨⟨Nat.le_refl _, Nat.le_refl _⟩, ?_⟩
    refine c_X9_headS (d := d + 4) hB (hsL_ne hnb hBC) hBr hj ?_
    change qJ m_X9_addPairs (qWP _) Q 42 [(4, .int (nI j)), (3, .int (nI i)), (2, .ref b), (1, .ref a), (0, .ref h)] [.int (nI j), .ref b, .long (lN (B.getD j 0 / 2 ^ 60)), .long (lN (A.getD i 0 % 2 ^ 60)), .long (lN (A.getD i 0 / 2 ^ 60)), .ref h] _ _ (z, N, (q2 I h 1 (nI l.length)), (qRow L (h + 1) e), R)
    refine qJ_run (qWP_mono _) [2, 4, 13, 16, 25, 30, 36, 42, 45] 400 ?_
    refine st_call rfl (fun _ h => h) hB.1 rfl (Nat.lt_of_succ_lt hB.2.2.2.1) ?_
    refine ⟨⟨Nat.le_refl _, Nat.le_refl _⟩, ?_⟩
    refine c_X9_tailS (d := d + 4) hB (hsL_ne hnb hBC) hBr hj ?_
    change qJ m_X9_addPairs (qWP _) Q 45 [(4, .int (nI j)), (3, .int (nI i)), (2, .ref b), (1, .ref a), (0, .ref h)] [.long (lN (B.getD j 0 % 2 ^ 60)), .long (lN (B.getD j 0 / 2 ^ 60)), .long (lN (A.getD i 0 % 2 ^ 60)), .long (lN (A.getD i 0 / 2 ^ 60)), .ref h] _ _ (z, N, (q2 I h 1 (nI l.length)), (qRow L (h + 1) e), R)
    refine qJ_run (qWP_mono _) [2, 4, 13, 16, 25, 30, 36, 42, 45] 400 ?_
    refine st_call rfl (fun _ h => h) hS.1 rfl (Nat.lt_of_succ_lt hS.2.2.2.1) ?_
    refine ⟨⟨Nat.le_refl _, Nat.le_refl _⟩, ?_⟩
    obtain ⟨n1, hv1⟩ := hvA i hi
    obtain ⟨n2, hv2⟩ := hvB j hj
    have hdr : (B.drop j).map (cat (A.getD i 0)) ++ prI (A.drop (i + 1)) B = cat (A.getD i 0) (B.getD j 0) :: ((B.drop (j + 1)).map (cat (A.getD i 0)) ++ prI (A.drop (i + 1)) B) := by rw [drop_c hj]; rfl
    refine c_X9_addPair (d := d + 1) (l := l) hS (hsL_at hrow hs) hl hst hv1 hv2 (fun ea => ?_) (fun l2 e2 ea hr2 => ?_)
    · refine ⟨fun h => absurd h (by decide), fun _ => ?_⟩
      refine ⟨by first | exact Or.inl rfl | exact Or.inr rfl | (clear ih g0 g1 hnx; grind), ?_⟩
      change Q (some (.int 0)) (z, N, (q2 I h 1 (nI l.length)), (qRow L (h + 1) e), R)
      exact g0 (by rw [hdr, addI_c, ea]; rfl) _ _
    · rw [q2s, qRow_qRow]
      refine ⟨fun _ => ?_, fun h => absurd h (by decide)⟩
      obtain ⟨p, rfl⟩ : ∃ p, q = p + 1 := ⟨q - 1, by omega⟩
      have hv9 : l2.length ≤ r ∧ srt l2 := addI_ok ea hl hs
      have hq9 := ih p rfl (j + 1) l2 e2 (by omega) hv9.1 hv9.2 hr2 (fun e9 => g0 (by rw [hdr, addI_c, ea]; exact e9)) (fun l3 e3 e9 => g1 l3 e3 (by rw [hdr, addI_c, ea]; exact e9))
      rw [← nI_1] at hq9
      exact hq9
theorem l_X9_addPairs {d z : Nat} {N : Nat → Nat} {I : Nat → Nat → Int32} {L : Nat → Nat → Int64} {R : Nat → Nat → Option Nat} {Q : qP} {h r a ra b rb : Nat} {A B : List Nat} (hst : qStat (z, N, I, L, R)) (hS : stS z N h r) (hA : stS z N a ra) (hB : stS z N b rb) (hna : a ≠ h) (hnb : b ≠ h) (hAC : hsL I L a A) (hBC : hsL I L b B) (hAr : A.length ≤ ra) (hBr : B.length ≤ rb) (hvA : vS A) (hvB : vS B) : ∀ (q i : Nat) (l : List Nat) (e : Nat → Int64), i + q = A.length → l.length ≤ r → srt l → rowL e l → (addI ins r (prI (A.drop i) B) l = none → ∀ (n : Int32) (e' : Nat → Int64), Q (some (.int 0)) (z, N, q2 I h 1 n, qRow L (h + 1) e', R)) → (∀ l' e', addI ins r (prI (A.drop i) B) l = some l' → rowL e' l' → Q (some (.int 1)) (z, N, q2 I h 1 (nI l'.length), qRow L (h + 1) e', R)) → qJ m_X9_addPairs (qWP (d + 5)) Q 2 [(3, .int (nI i)), (2, .ref b), (1, .ref a), (0, .ref h)] [] 0 0 (z, N, (q2 I h 1 (nI l.length)), (qRow L (h + 1) e), R) := by
  refine nat_ind fun q ih => ?_
  intro i l e hiq hl hs hrow g0 g1
  refine qJ_run (qWP_mono _) [2, 4, 13, 16, 25, 30, 36, 42, 45] 400 ?_
  change qJ m_X9_addPairs (qWP _) Q 4 [(3, .int (nI i)), (2, .ref b), (1, .ref a), (0, .ref h)] [.ref a, .int (nI i)] _ _ (z, N, (q2 I h 1 (nI l.length)), (qRow L (h + 1) e), R)
  refine qJ_run (qWP_mono _) [2, 4, 13, 16, 25, 30, 36, 42, 45] 400 ?_
  refine st_get1 rfl hA.1 (Nat.lt_of_succ_lt hA.2.2.2.1) ?_
  refine ⟨fun (c1 : ((q2 I h 1 (nI l.length)) a 1) ≤ (nI i)) => ?_, fun (c1 : ¬ ((q2 I h 1 (nI l.length)) a 1) ≤ (nI i)) => ?_⟩
  · have hi : A.length ≤ i := by
      have c9 := c1
      have e8 : (q2 I h 1 (nI l.length)) a 1 = nI A.length := by rw [q2_ne hna]; exact hAC.1
      rw [e8, nI_leI (by have := hA.2.2.2.2.2; omega) (by have := hA.2.2.2.2.2; omega)] at c9
      omega
    refine ⟨by first | exact Or.inl rfl | exact Or.inr rfl | (clear ih g0 g1; grind), ?_⟩
    change Q (some (.int 1)) (z, N, (q2 I h 1 (nI l.length)), (qRow L (h + 1) e), R)
    rw [prI_0 hi] at g1
    exact g1 l e rfl hrow
  · have hi : i < A.length := by
      refine Decidable.byContradiction fun h9 => c1 ?_
      rw [q2_ne hna, hAC.1]
      exact nI_le (by omega) (by have := hA.2.2.2.2.2; omega)
    obtain ⟨p, rfl⟩ : ∃ p, q = p + 1 := ⟨q - 1, by omega⟩
    rw [prI_c hi] at g0 g1
    exact l_X9_addPairs1 (d := d) hst hS hA hB hna hnb hAC hBC hAr hBr hvA hvB hi (fun l3 e3 hl3 hs3 hr3 k0 k1 => ih p rfl (i + 1) l3 e3 (by omega) hl3 hs3 hr3 k0 k1) B.length 0 l e (Nat.zero_add _) hl hs hrow g0 g1
theorem c_X9_addPairs {d z : Nat} {N : Nat → Nat} {I : Nat → Nat → Int32} {L : Nat → Nat → Int64} {R : Nat → Nat → Option Nat} {Q : qP} {h r a ra b rb : Nat} {A B : List Nat} (hst : qStat (z, N, I, L, R)) (hS : stS z N h r) (hA : stS z N a ra) (hB : stS z N b rb) (hna : a ≠ h) (hnb : b ≠ h) (hAC : hsL I L a A) (hBC : hsL I L b B) (hAr : A.length ≤ ra) (hBr : B.length ≤ rb) (hvA : vS A) (hvB : vS B) {l : List Nat} (hC : hsL I L h l) (hl : l.length ≤ r) (g0 : addI ins r (prI A B) l = none → ∀ (n : Int32) (e' : Nat → Int64), Q (some (.int 0)) (z, N, q2 I h 1 n, qRow L (h + 1) e', R)) (g1 : ∀ l' e', addI ins r (prI A B) l = some l' → rowL e' l' → Q (some (.int 1)) (z, N, q2 I h 1 (nI l'.length), qRow L (h + 1) e', R)) : qWP (d + 6) 111 [.ref h, .ref a, .ref b] (z, N, I, L, R) Q := by
  refine qWP_of m_X9_addPairs rfl rfl [(0, .ref h), (1, .ref a), (2, .ref b)] rfl ?_
  refine qJ_run (qWP_mono _) [2, 4, 16, 25, 30, 36, 42, 45] 400 ?_
  refine qJ_nm (qWP_mono _) [] [(3, .int 0), (2, .ref b), (1, .ref a), (0, .ref h)] rfl rfl rfl ?_
  refine qJ_M (M2 := (z, N, q2 I h 1 (nI l.length), qRow L (h + 1) (L (h + 1)), R)) (by rw [(hsL_id hC).1, (hsL_id hC).2]) ?_
  exact l_X9_addPairs (d := d) hst hS hA hB hna hnb hAC hBC hAr hBr hvA hvB A.length 0 l _ (Nat.zero_add _) hl hC.2.2 hC.2.1 g0 g1
