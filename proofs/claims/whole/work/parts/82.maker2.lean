/-! formulas: the class's maker, small methods -/
/-- all but the last level's row -/
def mkCr (g : Nat → Nat) (s : sg) (I : Nat → Nat → Int32) (L : Nat → Nat → Int64) : Prop := ∀ j, j ≤ gLv s → (¬ j = gLv s → hsL I L (g j) (gRw s j) ∧ okS (gRw s j)) ∧ hsL I L (21 + 4 * j) (gAl s j) ∧ okS (gAl s j)
theorem mkCr_of {g : Nat → Nat} {s : sg} {I : Nat → Nat → Int32} {L : Nat → Nat → Int64} (h : mkC g s I L) : mkCr g s I L := fun j hj => ⟨fun _ => (h j hj).1, (h j hj).2⟩
theorem mkCr_own {I I' : Nat → Nat → Int32} {L : Nat → Nat → Int64} {g : Nat → Nat} {s s' : sg} (hg : gOk g) (h : mkCr g s I L) (hI : ∀ a, a ≠ 11 → I' a = I a) (hl : gLv s' = gLv s) (h4 : gLv s ≤ 4) (hr : gRw s' = gRw s) (ha : gAl s' = gAl s) : mkCr g s' I' L := fun j hj => by
  rw [hr, ha, hl]
  rw [hl] at hj
  have hj4 : j < 5 := by omega
  have n1 := (seK_n (rwK_n (hg.1 j (by omega))).1).1
  exact ⟨fun h9 => ⟨hsL_I ((h j hj).1 h9).1 hI (by omega), ((h j hj).1 h9).2⟩, hsL_I (h j hj).2.1 hI (by omega), (h j hj).2.2⟩
theorem mkCr_set {I I' : Nat → Nat → Int32} {L L' : Nat → Nat → Int64} {g : Nat → Nat} {s : sg} (hg : gOk g) (h : mkCr g s I L) (h4 : gLv s ≤ 4) (hI : ∀ a, a ≠ g (gLv s) → I' a = I a) (hL : ∀ a, a ≠ g (gLv s) + 1 → L' a = L a) : mkCr g s I' L' := fun j hj => by
  have n1 := rwK_n (hg.1 (gLv s) (by omega))
  exact ⟨fun h9 => ⟨hsL_fr ((h j hj).1 h9).1 hI hL (fun e9 => h9 (hg.2 j (gLv s) (by omega) (by omega) e9)), ((h j hj).1 h9).2⟩, hsL_fr (h j hj).2.1 hI hL (fun e => n1.2.2 j (by omega) e.symm), (h j hj).2.2⟩
theorem mkCr_row {I : Nat → Nat → Int32} {L : Nat → Nat → Int64} {g : Nat → Nat} {s : sg} {l : List Nat} (h : mkCr g s I L) (hl : hsL I L (g (gLv s)) l) (ho : okS l) : mkC g (wRw s l) I L := fun j hj => by
  have hj5 : j ≤ gLv s := hj
  refine ⟨?_, (h j hj5).2⟩
  show hsL I L (g j) (upD (gRw s) (gLv s) l j) ∧ okS (upD (gRw s) (gLv s) l j)
  by_cases e : j = gLv s
  · subst e; rw [upD_at]; exact ⟨hl, ho⟩
  · rw [upD_ne e]
    exact (h j hj5).1 e
theorem fr_no {I I' : Nat → Nat → Int32} {k : Nat} (h : ∀ a, a ≠ k → I' a = I a) {b j : Nat} {x : Int32} (hb : b ≠ k) (e : I b j = x) : I' b j = x := by rw [h b hb]; exact e
theorem frL_id {L : Nat → Nat → Int64} {k : Nat} : ∀ a, a ≠ k → L a = L a := fun _ _ => rfl
theorem c_X2_startRow {d z : Nat} {N : Nat → Nat} {I : Nat → Nat → Int32} {L : Nat → Nat → Int64} {R : Nat → Nat → Option Nat} {Q : qP} {I0 : Nat → Nat → Int32} {L0 : Nat → Nat → Int64} {R0 : Nat → Nat → Option Nat} {g : Nat → Nat} {s : sg} (hN : mkN z N) (hF : mkF I0 L0 R0 g s I L R) (hC : gSp s = false → mkCr g s I L) (h : ∀ I' L', mkR I0 L0 R0 g (sRow s) I' L' R → Q none (z, N, I', L', R)) : qWP (d + 4) 35 [.ref 11] (z, N, I, L, R) Q := by
  have hg := hF.1
  have h4 := hF.2.1
  have hl6 : I 11 6 = nI (gLv s) := hF.2.2.2.2.1.1
  have hSr := mkN_r hN hg (show gLv s < 6 by omega)
  have hkr := (rwK_n (hg.1 (gLv s) (by omega))).1
  have h11 : 11 ≠ g (gLv s) := by have := seK_n hkr; omega
  refine qWP_of m_X2_startRow rfl rfl [(0, .ref 11)] rfl ?_
  refine qJ_run (qWP_mono _) [29, 43] 400 ?_
  refine ⟨?_, ?_⟩
  · first | exact Or.inl rfl | exact Or.inr rfl | (clear h; grind)
  refine br_f (show ¬ (I 11 6) < 0 from by rw [hl6]; exact nI_pos (by omega)) ?_
  refine br_f (show ¬ 4 < (I 11 6) from by rw [hl6]; exact Int32.not_lt.mpr (nI_le (b := 4) h4 (by omega))) ?_
  refine ⟨?_, ?_⟩
  · show vp_in (I 11 6) 5
    rw [hl6]
    exact vp_in_nI (by omega) (by omega)
  refine ⟨some (g (gLv s)), (show R 12 (Int32.toNatClampNeg (I 11 6)) = some (g (gLv s)) by rw [hl6, nI_clamp (by omega)]; exact hF.2.2.2.1.2.1 _ (by omega)), ?_⟩
  change qJ m_X2_startRow (qWP _) Q 29 [(0, .ref 11)] [.ref (g (gLv s))] _ _ (z, N, q2 I 11 7 0, L, R)
  refine qJ_run (qWP_mono _) [29, 43] 400 ?_
  refine st_call rfl (fun _ h => h) hSr.1 rfl (Nat.lt_of_succ_lt hSr.2.2.2.1) ?_
  refine ⟨⟨Nat.le_refl _, Nat.le_refl _⟩, ?_⟩
  refine c_X9_clear1 (d := d + 2) hSr fun I1 hf1 hc1 => ?_
  have hl7 : I1 11 6 = nI (gLv s) := fr_no hf1 h11 ((q2_nj (by decide)).trans hl6)
  refine ⟨?_, ?_⟩
  · show vp_in (I1 11 6) 5
    rw [hl7]
    exact vp_in_nI (by omega) (by omega)
  refine ⟨some (g (gLv s)), (show R 12 (Int32.toNatClampNeg (I1 11 6)) = some (g (gLv s)) by rw [hl7, nI_clamp (by omega)]; exact hF.2.2.2.1.2.1 _ (by omega)), ?_⟩
  change qJ m_X2_startRow (qWP _) Q 43 [(0, .ref 11)] [.long 0, .long 0, .ref (g (gLv s))] _ _ (z, N, I1, L, R)
  refine qJ_run (qWP_mono _) [29, 43] 400 ?_
  refine st_call rfl (fun _ h => h) hSr.1 rfl (Nat.lt_of_succ_lt hSr.2.2.2.1) ?_
  refine ⟨⟨Nat.le_refl _, Nat.le_refl _⟩, ?_⟩
  refine qWP_as (as' := [.ref (g (gLv s)), .long (lN (0 / 2 ^ 60)), .long (lN (0 % 2 ^ 60))]) rfl ?_
  refine c_X9_addF (d := d) hSr hc1 (by decide) (by decide) (fun e9 => absurd (e9.symm.trans (addG_0 (by decide))) (by simp)) (fun l2 I2 L2 ea hf2 hg2 hc2 => ?_)
  change Q none (z, N, I2, L2, R)
  obtain rfl : [0] = l2 := Option.some.inj ((addG_0 (by decide)).symm.trans ea)
  have hFa : mkF I0 L0 R0 g (sRow s) (q2 I 11 7 0) L R := mkF_own hF (fun a ha => q2_ne ha) (Nat.le_refl _) ⟨(q2_nj (by decide)).trans hl6, q2_at, (q2_nj (by decide)).trans hF.2.2.2.2.1.2.2.1, (q2_nj (by decide)).trans hF.2.2.2.2.1.2.2.2⟩ rfl
  refine h I2 L2 ⟨mkF_set (mkF_set hFa hkr hf1 frL_id) hkr hf2 hg2, fun hsp => ?_⟩
  have hCa : mkCr g (gLv s, gRw s, gAl s, gOp s, false, gEn s, gSp s) (q2 I 11 7 0) L := mkCr_own hg (hC hsp) (fun a ha => q2_ne ha) rfl h4 rfl rfl
  exact mkCr_row (s := (gLv s, gRw s, gAl s, gOp s, false, gEn s, gSp s)) (mkCr_set hg (mkCr_set hg hCa h4 hf1 frL_id) h4 hf2 hg2) hc2 ok_0
theorem mkF_lev {I0 I I' : Nat → Nat → Int32} {L0 L : Nat → Nat → Int64} {R0 R : Nat → Nat → Option Nat} {g : Nat → Nat} {s : sg} {n : Nat} {b : Bool} (h : mkF I0 L0 R0 g s I L R) (h1 : n ≤ gLv s + 1) (h4 : n ≤ 4) (hI : ∀ a, a ≠ 11 → a ≠ 14 → I' a = I a) (hf : I' 11 6 = nI n ∧ I' 11 7 = bI (gBg s) ∧ I' 11 8 = bI (gEn s) ∧ I' 11 9 = bI (gSp s)) (ho : I' 14 = uI (I 14) n (bI b)) : mkF I0 L0 R0 g (n, gRw s, upD (gAl s) n [], upD (gOp s) n b, gBg s, gEn s, gSp s) I' L R := by
  obtain ⟨a1, a2, a3, a4, a5, a6⟩ := h
  refine ⟨a1, h4, fun a ha => ?_, a4, hf, fun j hj => ?_⟩
  · rw [hI a (by omega) (by omega)]; exact a3 a ha
  · replace hj : j ≤ n := hj
    rw [ho]
    show uI (I 14) n (bI b) j = bI (upD (gOp s) n b j)
    by_cases e : j = n
    · subst e; rw [uI_at, upD_at]
    · rw [uI_nj e, upD_ne e]; exact a6 j (by omega)
theorem mkC_lev {I I' : Nat → Nat → Int32} {L L' : Nat → Nat → Int64} {g : Nat → Nat} {s : sg} {n : Nat} {b : Bool} (hg : gOk g) (h : mkC g s I L) (h1 : n ≤ gLv s + 1) (h4 : n ≤ 4) (hI : ∀ a, a ≠ 11 → a ≠ 14 → a ≠ 21 + 4 * n → I' a = I a) (hL : ∀ a, a ≠ 21 + 4 * n + 1 → L' a = L a) (hc : hsL I' L' (21 + 4 * n) []) : mkCr g (n, gRw s, upD (gAl s) n [], upD (gOp s) n b, gBg s, gEn s, gSp s) I' L' := fun j hj => by
  replace hj : j ≤ n := hj
  have n1 := rwK_n (hg.1 j (by omega))
  have n2 := seK_n n1.1
  refine ⟨fun h9 => ?_, ?_⟩
  · replace h9 : ¬ j = n := h9
    have g1 := (h j (by omega)).1
    refine ⟨?_, g1.2⟩
    unfold hsL
    rw [hI (g j) (by omega) n2.2.2.1 (n1.2.2 n (by omega)), hL (g j + 1) (fun e => n1.2.2 n (by omega) (by omega))]
    exact g1.1
  · show hsL I' L' (21 + 4 * j) (upD (gAl s) n [] j) ∧ okS (upD (gAl s) n [] j)
    by_cases e : j = n
    · subst e; rw [upD_at]; exact ⟨hc, ok_nil⟩
    · rw [upD_ne e]
      have g1 := (h j (by omega)).2
      refine ⟨?_, g1.2⟩
      unfold hsL
      rw [hI (21 + 4 * j) (by omega) (by omega) (by omega), hL (21 + 4 * j + 1) (by omega)]
      exact g1.1
theorem c_X2_startLevel {d z : Nat} {N : Nat → Nat} {I : Nat → Nat → Int32} {L : Nat → Nat → Int64} {R : Nat → Nat → Option Nat} {Q : qP} {I0 : Nat → Nat → Int32} {L0 : Nat → Nat → Int64} {R0 : Nat → Nat → Option Nat} {g : Nat → Nat} {s : sg} (hN : mkN z N) {n : Nat} {b : Bool} (hF : mkF I0 L0 R0 g s I L R) (hC : gSp s = false → mkC g s I L) (h1 : n ≤ gLv s + 1) (h4 : n ≤ 4) (h : ∀ I' L', mkR I0 L0 R0 g (sLev n b s) I' L' R → Q none (z, N, I', L', R)) : qWP (d + 5) 34 [.ref 11, .int (nI n), .int (bI b)] (z, N, I, L, R) Q := by
  have hg := hF.1
  have hSa := mkN_a hN (show n < 5 by omega)
  refine qWP_of m_X2_startLevel rfl rfl [(0, .ref 11), (1, .int (nI n)), (2, .int (bI b))] rfl ?_
  refine qJ_run (qWP_mono _) [39, 43] 400 ?_
  refine br_f (show ¬ (nI n) < 0 from nI_pos (by omega)) ?_
  refine br_f (show ¬ 4 < (nI n) from Int32.not_lt.mpr (nI_le (b := 4) h4 (by omega))) ?_
  refine ⟨?_, ?_⟩
  · show vp_in (nI n) 5
    exact vp_in_nI (by omega) (by omega)
  refine ⟨?_, ?_⟩
  · show vp_in (nI n) 5
    exact vp_in_nI (by omega) (by omega)
  refine ⟨some (21 + 4 * n), (show R 13 (nI n).toNatClampNeg = some (21 + 4 * n) by rw [nI_clamp (by omega)]; exact hF.2.2.2.1.1 _ (by omega)), ?_⟩
  change qJ m_X2_startLevel (qWP _) Q 39 [(0, .ref 11), (1, .int (nI n)), (2, .int (bI b))] [.ref (21 + 4 * n)] _ _ (z, N, q2 (q2 I 11 6 (nI n)) 14 (((nI n)).toNatClampNeg) (vp_nar .boolean (bI b)), L, R)
  refine qJ_run (qWP_mono _) [39, 43] 400 ?_
  refine st_call rfl (fun _ h => h) hSa.1 rfl (Nat.lt_of_succ_lt hSa.2.2.2.1) ?_
  refine ⟨⟨Nat.le_refl _, Nat.le_refl _⟩, ?_⟩
  refine c_X9_clear1 (d := d + 3) hSa fun I1 hf1 hc1 => ?_
  change qJ m_X2_startLevel (qWP _) Q 43 [(0, .ref 11), (1, .int (nI n)), (2, .int (bI b))] [.ref 11] _ _ (z, N, I1, L, R)
  refine qJ_run (qWP_mono _) [39, 43] 400 ?_
  refine ⟨⟨Nat.le_refl _, Nat.le_refl _⟩, ?_⟩
  have n5 : 21 + 4 * n ≠ 11 ∧ 21 + 4 * n ≠ 14 := by omega
  have eb : vp_nar .boolean (bI b) = bI b := by cases b <;> rfl
  rw [eb] at hf1
  have e11 : I1 11 = q2 I 11 6 (nI n) 11 := (hf1 11 n5.1.symm).trans (q2_ne (by decide))
  have e14 : I1 14 = uI (I 14) n (bI b) := by
    rw [hf1 14 n5.2.symm, q2_r1, q2_ne (by decide), nI_clamp (by omega)]
  have hfr : ∀ a, a ≠ 11 → a ≠ 14 → a ≠ 21 + 4 * n → I1 a = I a := fun a h1 h2 h3 => by rw [hf1 a h3, q2_ne h2, q2_ne h1]
  have hF1 : mkF I0 L0 R0 g (n, gRw s, upD (gAl s) n [], upD (gOp s) n b, gBg s, gEn s, gSp s) I1 L R := by
    refine mkF_set (mkF_lev (I' := q2 (q2 I 11 6 (nI n)) 14 n (bI b)) hF h1 h4 (fun a ha hb => by rw [q2_ne hb, q2_ne ha]) ?_ ?_) (alK_n (show n < 5 by omega)) (fun a ha => ?_) frL_id
    · rw [q2_ne (by decide)]
      exact ⟨q2_at, (q2_nj (by decide)).trans hF.2.2.2.2.1.2.1, (q2_nj (by decide)).trans hF.2.2.2.2.1.2.2.1, (q2_nj (by decide)).trans hF.2.2.2.2.1.2.2.2⟩
    · rw [q2_r1, q2_ne (by decide)]
    · have := hf1 a ha
      rw [nI_clamp (by omega)] at this
      exact this
  refine c_X2_startRow (d := d) hN hF1 (fun hsp => mkC_lev hg (hC hsp) h1 h4 hfr (fun a _ => rfl) hc1) fun I2 L2 hm2 => ?_
  change Q none (z, N, I2, L2, R)
  exact h I2 L2 hm2
theorem c_X9_addAllF {d z : Nat} {N : Nat → Nat} {I : Nat → Nat → Int32} {L : Nat → Nat → Int64} {R : Nat → Nat → Option Nat} {Q : qP} {h r o ro : Nat} {m l : List Nat} (hS : stS z N h r) (hO : stS z N o ro) (hne : o ≠ h) (hOC : hsL I L o m) (hmr : m.length ≤ ro) (hC : hsL I L h l) (hl : l.length ≤ r) (g0 : addI ins r (m.map some) l = none → ∀ (I' : Nat → Nat → Int32) (L' : Nat → Nat → Int64), (∀ a, a ≠ h → I' a = I a) → (∀ a, a ≠ h + 1 → L' a = L a) → Q (some (.int 0)) (z, N, I', L', R)) (g1 : ∀ (l' : List Nat) (I' : Nat → Nat → Int32) (L' : Nat → Nat → Int64), addI ins r (m.map some) l = some l' → (∀ a, a ≠ h → I' a = I a) → (∀ a, a ≠ h + 1 → L' a = L a) → hsL I' L' h l' → Q (some (.int 1)) (z, N, I', L', R)) : qWP (d + 5) 110 [.ref h, .ref o] (z, N, I, L, R) Q :=
  c_X9_addAll hS hO hne hOC hmr hC hl (fun ea n e' => g0 ea _ _ (fun a ha => q2_ne ha) (fun a ha => qRow_ne ha)) fun l' e ea hr => g1 l' _ _ ea (fun a ha => q2_ne ha) (fun a ha => qRow_ne ha) (hsL_at hr (srt_addI _ _ hC.2.2 ea))
theorem c_X9_addPairsF {d z : Nat} {N : Nat → Nat} {I : Nat → Nat → Int32} {L : Nat → Nat → Int64} {R : Nat → Nat → Option Nat} {Q : qP} {h r a ra b rb : Nat} {A B l : List Nat} (hst : qStat (z, N, I, L, R)) (hS : stS z N h r) (hA : stS z N a ra) (hB : stS z N b rb) (hna : a ≠ h) (hnb : b ≠ h) (hAC : hsL I L a A) (hBC : hsL I L b B) (hAr : A.length ≤ ra) (hBr : B.length ≤ rb) (hvA : vS A) (hvB : vS B) (hC : hsL I L h l) (hl : l.length ≤ r) (g0 : addI ins r (prI A B) l = none → ∀ (I' : Nat → Nat → Int32) (L' : Nat → Nat → Int64), (∀ a, a ≠ h → I' a = I a) → (∀ a, a ≠ h + 1 → L' a = L a) → Q (some (.int 0)) (z, N, I', L', R)) (g1 : ∀ (l' : List Nat) (I' : Nat → Nat → Int32) (L' : Nat → Nat → Int64), addI ins r (prI A B) l = some l' → (∀ a, a ≠ h → I' a = I a) → (∀ a, a ≠ h + 1 → L' a = L a) → hsL I' L' h l' → Q (some (.int 1)) (z, N, I', L', R)) : qWP (d + 6) 111 [.ref h, .ref a, .ref b] (z, N, I, L, R) Q :=
  c_X9_addPairs hst hS hA hB hna hnb hAC hBC hAr hBr hvA hvB hC hl (fun ea n e' => g0 ea _ _ (fun a ha => q2_ne ha) (fun a ha => qRow_ne ha)) fun l' e ea hr => g1 l' _ _ ea (fun a ha => q2_ne ha) (fun a ha => qRow_ne ha) (hsL_at hr (srt_addI _ _ hC.2.2 ea))
theorem some_m {l : List Nat} (h : vS l) : ∀ K, some K ∈ l.map some → ∃ n, vK K n := fun K hK => by
  obtain ⟨a, ha, e⟩ := List.mem_map.mp hK
  obtain rfl := Option.some.inj e
  exact vS_m.mp h _ ha
theorem c_X2_endRow {d z : Nat} {N : Nat → Nat} {I : Nat → Nat → Int32} {L : Nat → Nat → Int64} {R : Nat → Nat → Option Nat} {Q : qP} {I0 : Nat → Nat → Int32} {L0 : Nat → Nat → Int64} {R0 : Nat → Nat → Option Nat} {g : Nat → Nat} {s : sg} (hN : mkN z N) (hm : mkR I0 L0 R0 g s I L R) (h : ∀ I' L', mkR I0 L0 R0 g (eRow s) I' L' R → Q none (z, N, I', L', R)) : qWP (d + 6) 37 [.ref 11] (z, N, I, L, R) Q := by
  have hF := hm.1
  have hg := hF.1
  have h4 := hF.2.1
  have hl6 : I 11 6 = nI (gLv s) := hF.2.2.2.2.1.1
  have hSr := mkN_r hN hg (show gLv s < 6 by omega)
  have hkr := (rwK_n (hg.1 (gLv s) (by omega))).1
  have h11 : 11 ≠ g (gLv s) := by have := seK_n hkr; omega
  have hSa := mkN_a hN (show gLv s < 5 by omega)
  have hka := alK_n (show gLv s < 5 by omega)
  have hl9 : I 11 9 = bI (gSp s) := hF.2.2.2.2.1.2.2.2
  refine qWP_of m_X2_endRow rfl rfl [(0, .ref 11)] rfl ?_
  refine qJ_run (qWP_mono _) [41] 400 ?_
  refine ⟨fun (c1 : ¬ (I 11 9) = 0) => ?_, fun (c1 : (I 11 9) = 0) => ?_⟩
  · have hsp : gSp s = true := by
      have c9 := c1
      rw [hl9] at c9
      cases e : gSp s with
      | true => rfl
      | false => rw [e] at c9; exact absurd rfl c9
    change Q none (z, N, I, L, R)
    have e9 : eRow s = s := if_pos hsp
    rw [e9] at h
    exact h I L hm
  · have hsp : gSp s = false := by
      have c9 := c1
      rw [hl9] at c9
      exact bI_1.mp c9
    have hC := hm.2 hsp
    have hR1 := (hC (gLv s) (Nat.le_refl _)).1
    have hA1 := (hC (gLv s) (Nat.le_refl _)).2
    refine br_f (show ¬ (I 11 6) < 0 from by rw [hl6]; exact nI_pos (by omega)) ?_
    refine br_f (show ¬ 4 < (I 11 6) from by rw [hl6]; exact Int32.not_lt.mpr (nI_le (b := 4) h4 (by omega))) ?_
    refine ⟨?_, ?_⟩
    · show vp_in (I 11 6) 5
      rw [hl6]
      exact vp_in_nI (by omega) (by omega)
    refine ⟨some (21 + 4 * gLv s), (show R 13 (Int32.toNatClampNeg (I 11 6)) = some (21 + 4 * gLv s) by rw [hl6, nI_clamp (by omega)]; exact hF.2.2.2.1.1 _ (by omega)), ?_⟩
    refine ⟨?_, ?_⟩
    · show vp_in (I 11 6) 5
      rw [hl6]
      exact vp_in_nI (by omega) (by omega)
    refine ⟨some (g (gLv s)), (show R 12 (Int32.toNatClampNeg (I 11 6)) = some (g (gLv s)) by rw [hl6, nI_clamp (by omega)]; exact hF.2.2.2.1.2.1 _ (by omega)), ?_⟩
    change qJ m_X2_endRow (qWP _) Q 41 [(0, .ref 11)] [.ref (g (gLv s)), .ref (21 + 4 * gLv s), .ref 11] _ _ (z, N, I, L, R)
    refine qJ_run (qWP_mono _) [41] 400 ?_
    refine st_call rfl (fun _ h => h) hSa.1 rfl (Nat.lt_of_succ_lt hSa.2.2.2.1) ?_
    refine ⟨⟨Nat.le_refl _, Nat.le_refl _⟩, ?_⟩
    refine c_X9_addAllF (d := d) hSa hSr ((rwK_n (hg.1 (gLv s) (by omega))).2.2 (gLv s) (by omega)) hR1.1 hR1.2.1 hA1.1 hA1.2.1 (fun ea I1 L1 hf1 hg1 => ?_) (fun l1 I1 L1 ea hf1 hg1 hc1 => ?_)
    · refine ⟨fun h => absurd h (by decide), fun _ => ?_⟩
      refine ⟨?_, ?_⟩
      · first | exact Or.inl rfl | exact Or.inr rfl | (clear h; grind)
      change Q none (z, N, q2 I1 11 9 1, L1, R)
      have e9 : eRow s = wSp s := by unfold eRow; rw [if_neg (by rw [hsp]; decide), ea]; rfl
      rw [e9] at h
      have e11 : ∀ j, I1 11 j = I 11 j := fun j => by rw [hf1 11 (by have := seK_n hka; omega)]
      have hfo : mkF I0 L0 R0 g (wSp s) (q2 I1 11 9 1) L1 R := mkF_own (mkF_set hF hka hf1 hg1) (fun a ha => q2_ne ha) (Nat.le_refl _) ⟨(q2_nj (by decide)).trans ((e11 6).trans hl6), (q2_nj (by decide)).trans ((e11 7).trans hF.2.2.2.2.1.2.1), (q2_nj (by decide)).trans ((e11 8).trans hF.2.2.2.2.1.2.2.1), q2_at.trans (by rfl)⟩ rfl
      exact h _ _ ⟨hfo, fun h9 => absurd h9 (by simp [wSp])⟩
    · refine ⟨fun _ => ?_, fun h => absurd h (by decide)⟩
      refine ⟨?_, ?_⟩
      · first | exact Or.inl rfl | exact Or.inr rfl | (clear h; grind)
      change Q none (z, N, q2 I1 11 9 0, L1, R)
      have e9 : eRow s = wAl s l1 := by unfold eRow; rw [if_neg (by rw [hsp]; decide), ea]; rfl
      rw [e9] at h
      have e11 : ∀ j, I1 11 j = I 11 j := fun j => by rw [hf1 11 (by have := seK_n hka; omega)]
      have hfo : mkF I0 L0 R0 g (wAl s l1) (q2 I1 11 9 0) L1 R := mkF_own (mkF_set hF hka hf1 hg1) (fun a ha => q2_ne ha) (Nat.le_refl _) ⟨(q2_nj (by decide)).trans ((e11 6).trans hl6), (q2_nj (by decide)).trans ((e11 7).trans hF.2.2.2.2.1.2.1), (q2_nj (by decide)).trans ((e11 8).trans hF.2.2.2.2.1.2.2.1), q2_at.trans (by show (0 : Int32) = bI (gSp s); rw [hsp]; rfl)⟩ rfl
      exact h _ _ ⟨hfo, fun _ => mkC_own hg (mkC_all hg hC h4 hf1 hg1 hc1 (okS_add ea hA1.2 (some_m hR1.2.2))) (fun a ha => q2_ne ha) (Nat.le_refl _) h4 rfl rfl⟩
