/-! formulas: the class's maker, words and marks -/
theorem q2_fr {α : Type} {I I' : Nat → Nat → α} {k b j : Nat} {v : α} (h : ∀ a, a ≠ k → I' a = I a) : ∀ a, a ≠ k → q2 I' b j v a = q2 I b j v a := fun a ha => by
  unfold q2
  rw [h a ha]
theorem mkF_start {I0 I : Nat → Nat → Int32} {L0 L : Nat → Nat → Int64} {R0 R : Nat → Nat → Option Nat} {g : Nat → Nat} {s : sg} {b : Bool} (hg : gOk g) (hfr : ∀ a, (a < 11 ∨ 38 < a) → I a = I0 a ∧ L a = L0 a ∧ R a = R0 a) (hR : (∀ i, i < 5 → R 13 i = some (21 + 4 * i)) ∧ (∀ i, i < 5 → R 12 i = some (g i)) ∧ R 11 4 = some (g 5)) (h8 : I 11 8 = bI (gEn s)) (h9 : I 11 9 = bI (gSp s)) : mkF I0 L0 R0 g (sLev 0 b s) (q2 (q2 (q2 I 11 6 0) 14 0 (bI b)) 11 7 0) L R := by
  refine ⟨hg, Nat.zero_le _, fun a ha => ?_, hR, ⟨?_, q2_at, ?_, ?_⟩, fun j hj => ?_⟩
  · rw [q2_ne (by omega), q2_ne (by omega), q2_ne (by omega)]; exact hfr a ha
  · rw [q2_nj (by decide), q2_ne (by decide), q2_at]; rfl
  · rw [q2_nj (by decide), q2_ne (by decide), q2_nj (by decide)]; exact h8
  · rw [q2_nj (by decide), q2_ne (by decide), q2_nj (by decide)]; exact h9
  · obtain rfl : j = 0 := Nat.le_zero.mp hj
    rw [q2_ne (by decide), q2_at]
    rfl
theorem c_X2_startRow0 {d z : Nat} {N : Nat → Nat} {I : Nat → Nat → Int32} {L : Nat → Nat → Int64} {R : Nat → Nat → Option Nat} {Q : qP} {I0 : Nat → Nat → Int32} {L0 : Nat → Nat → Int64} {R0 : Nat → Nat → Option Nat} {g : Nat → Nat} {s : sg} (hN : mkN z N) (hFa : mkF I0 L0 R0 g (sRow s) (q2 I 11 7 0) L R) (hC : gSp s = false → mkCr g s I L) (h : ∀ I' L', mkR I0 L0 R0 g (sRow s) I' L' R → Q none (z, N, I', L', R)) : qWP (d + 4) 35 [.ref 11] (z, N, I, L, R) Q := by
  have hF := hFa
  have hg := hF.1
  have h4 : gLv s ≤ 4 := hF.2.1
  have hl6 : I 11 6 = nI (gLv s) := (q2_nj (by decide)).symm.trans hF.2.2.2.2.1.1
  have hSr := mkN_r hN hg (show gLv s < 6 by omega)
  have hkr := (rwK_n (hg.1 (gLv s) (by omega))).1
  have h11 : 11 ≠ g (gLv s) := by have := seK_n hkr; omega
  refine qWP_of m_X2_startRow rfl rfl [(0, .ref 11)] rfl ?_
  refine qJ_run (qWP_mono _) [29, 43] 400 ?_
  refine ⟨?_, ?_⟩
  · first | exact Or.inl rfl | exact Or.inr rfl | (clear h; grind)
  refine br_f (show ¬ (I 11 6) < 0 from by rw [hl6]; exact nI_pos (by omega)) ?_
  refine br_f (show ¬ 4 < (I 11 6) from by rw [hl6]; exact Int32.not_lt.mpr (nI_le (b := 4) h4 (by omega))) ?_
  refine ⟨?_, ?_⟩
  · show vp_in (I 11 6) 5
    rw [hl6]
    exact vp_in_nI (by omega) (by omega)
  refine ⟨some (g (gLv s)), (show R 12 (Int32.toNatClampNeg (I 11 6)) = some (g (gLv s)) by rw [hl6, nI_clamp (by omega)]; exact hF.2.2.2.1.2.1 _ (by omega)), ?_⟩
  change qJ m_X2_startRow (qWP _) Q 29 [(0, .ref 11)] [.ref (g (gLv s))] _ _ (z, N, q2 I 11 7 0, L, R)
  refine qJ_run (qWP_mono _) [29, 43] 400 ?_
  refine st_call rfl (fun _ h => h) hSr.1 rfl (Nat.lt_of_succ_lt hSr.2.2.2.1) ?_
  refine ⟨⟨Nat.le_refl _, Nat.le_refl _⟩, ?_⟩
  refine c_X9_clear1 (d := d + 2) hSr fun I1 hf1 hc1 => ?_
  have hl7 : I1 11 6 = nI (gLv s) := fr_no hf1 h11 ((q2_nj (by decide)).trans hl6)
  refine ⟨?_, ?_⟩
  · show vp_in (I1 11 6) 5
    rw [hl7]
    exact vp_in_nI (by omega) (by omega)
  refine ⟨some (g (gLv s)), (show R 12 (Int32.toNatClampNeg (I1 11 6)) = some (g (gLv s)) by rw [hl7, nI_clamp (by omega)]; exact hF.2.2.2.1.2.1 _ (by omega)), ?_⟩
  change qJ m_X2_startRow (qWP _) Q 43 [(0, .ref 11)] [.long 0, .long 0, .ref (g (gLv s))] _ _ (z, N, I1, L, R)
  refine qJ_run (qWP_mono _) [29, 43] 400 ?_
  refine st_call rfl (fun _ h => h) hSr.1 rfl (Nat.lt_of_succ_lt hSr.2.2.2.1) ?_
  refine ⟨⟨Nat.le_refl _, Nat.le_refl _⟩, ?_⟩
  refine qWP_as (as' := [.ref (g (gLv s)), .long (lN (0 / 2 ^ 60)), .long (lN (0 % 2 ^ 60))]) rfl ?_
  refine c_X9_addF (d := d) hSr hc1 (by decide) (by decide) (fun e9 => absurd (e9.symm.trans (addG_0 (by decide))) (by simp)) (fun l2 I2 L2 ea hf2 hg2 hc2 => ?_)
  change Q none (z, N, I2, L2, R)
  obtain rfl : [0] = l2 := Option.some.inj ((addG_0 (by decide)).symm.trans ea)
  refine h I2 L2 ⟨mkF_set (mkF_set hFa hkr hf1 frL_id) hkr hf2 hg2, fun hsp => ?_⟩
  have hCa : mkCr g (gLv s, gRw s, gAl s, gOp s, false, gEn s, gSp s) (q2 I 11 7 0) L := mkCr_own hg (hC hsp) (fun a ha => q2_ne ha) rfl h4 rfl rfl
  exact mkCr_row (s := (gLv s, gRw s, gAl s, gOp s, false, gEn s, gSp s)) (mkCr_set hg (mkCr_set hg hCa h4 hf1 frL_id) h4 hf2 hg2) hc2 ok_0
theorem c_X2_startLevel0 {d z : Nat} {N : Nat → Nat} {I : Nat → Nat → Int32} {L : Nat → Nat → Int64} {R : Nat → Nat → Option Nat} {Q : qP} {I0 : Nat → Nat → Int32} {L0 : Nat → Nat → Int64} {R0 : Nat → Nat → Option Nat} {g : Nat → Nat} {s : sg} (hN : mkN z N) (hg : gOk g) (hfr : ∀ a, (a < 11 ∨ 38 < a) → I a = I0 a ∧ L a = L0 a ∧ R a = R0 a) (hR : (∀ i, i < 5 → R 13 i = some (21 + 4 * i)) ∧ (∀ i, i < 5 → R 12 i = some (g i)) ∧ R 11 4 = some (g 5)) (h8 : I 11 8 = bI (gEn s)) (h9 : I 11 9 = bI (gSp s)) (h : ∀ I' L', mkR I0 L0 R0 g (sLev 0 false s) I' L' R → Q none (z, N, I', L', R)) : qWP (d + 5) 34 [.ref 11, .int (0 : Int32), .int (0 : Int32)] (z, N, I, L, R) Q := by
  have hSa : stS z N 21 200 := mkN_a hN (j := 0) (by decide)
  refine qWP_of m_X2_startLevel rfl rfl [(0, .ref 11), (1, .int (0 : Int32)), (2, .int (0 : Int32))] rfl ?_
  refine qJ_run (qWP_mono _) [39, 43] 400 ?_
  refine br_f (show ¬ (0 : Int32) < 0 from (show ¬ (0 : Int32) < 0 by decide)) ?_
  refine br_f (show ¬ 4 < (0 : Int32) from (show ¬ (4 : Int32) < 0 by decide)) ?_
  refine ⟨?_, ?_⟩
  · show vp_in (nI 0) 5
    exact vp_in_nI (by decide) (by decide)
  refine ⟨?_, ?_⟩
  · show vp_in (nI 0) 5
    exact vp_in_nI (by decide) (by decide)
  refine ⟨some 21, (show R 13 0 = some 21 from hR.1 0 (by decide)), ?_⟩
  change qJ m_X2_startLevel (qWP _) Q 39 [(0, .ref 11), (1, .int (0 : Int32)), (2, .int (0 : Int32))] [.ref 21] _ _ (z, N, q2 (q2 I 11 6 (0 : Int32)) 14 (((0 : Int32)).toNatClampNeg) (vp_nar .boolean (0 : Int32)), L, R)
  refine qJ_run (qWP_mono _) [39, 43] 400 ?_
  refine ⟨⟨Nat.le_refl _, Nat.le_refl _⟩, ?_⟩
  refine c_X9_clear1 (h := 21) (d := d + 3) hSa fun I1 hf1 hc1 => ?_
  change qJ m_X2_startLevel (qWP _) Q 43 [(0, .ref 11), (1, .int (0 : Int32)), (2, .int (0 : Int32))] [.ref 11] _ _ (z, N, I1, L, R)
  refine qJ_run (qWP_mono _) [39, 43] 400 ?_
  refine ⟨⟨Nat.le_refl _, Nat.le_refl _⟩, ?_⟩
  have hf2 : ∀ a, a ≠ 21 → I1 a = q2 (q2 I 11 6 0) 14 0 (bI false) a := hf1
  have hFb := mkF_start (s := s) (b := false) hg hfr hR h8 h9
  refine c_X2_startRow0 (d := d) (s := (0, gRw s, upD (gAl s) 0 [], upD (gOp s) 0 false, gBg s, gEn s, gSp s)) hN (mkF_set (k := 21) hFb (by decide) (q2_fr hf2) frL_id) (fun hsp j hj => ?_) fun I2 L2 hm2 => ?_
  · obtain rfl : j = 0 := Nat.le_zero.mp hj
    refine ⟨fun h9 => absurd rfl h9, ?_⟩
    show hsL I1 L 21 (upD (gAl s) 0 [] 0) ∧ okS (upD (gAl s) 0 [] 0)
    rw [upD_at]
    exact ⟨hc1, ok_nil⟩
  change Q none (z, N, I2, L2, R)
  exact h I2 L2 hm2
theorem c_X2_appendPieceP {d z : Nat} {N : Nat → Nat} {I : Nat → Nat → Int32} {L : Nat → Nat → Int64} {R : Nat → Nat → Option Nat} {Q : qP} {I0 : Nat → Nat → Int32} {L0 : Nat → Nat → Int64} {R0 : Nat → Nat → Option Nat} {g : Nat → Nat} {s : sg} (hN : mkN z N) (hst : qStat (z, N, I, L, R)) (hpd : pend z N I0 L0 R0 g s I L R) (h : ∀ g' I' L' R', mkR I0 L0 R0 g' s I' L' R' → qStat (z, N, I', L', R') → R' 11 5 = none → Q none (z, N, I', L', R')) : qWP (d + 7) 36 [.ref 11] (z, N, I, L, R) Q := by
  rcases hpd with ⟨s1, p, pr, P, e, hm, hp, hSp, hPC, hpg⟩ | ⟨hm, hp⟩
  · rw [e] at h
    exact c_X2_appendPiece (d := d) hN hst hm hp hSp hPC hpg h
  · exact c_X2_appendPiece0 (d := d + 6) hp (h g I L R hm hst hp)
theorem stT_e {s : sg} {t : Int32} {K : Nat} (h : gEn s = true) (ht : ¬ t = 0) : stT s t K = none := by
  unfold stT
  rw [if_neg ht, if_pos h]
theorem stT_x {s : sg} {K : Nat} : stT s 1 K = none := by
  unfold stT
  rw [if_neg (by decide)]
  split
  · rfl
  · rw [if_neg (by decide), if_neg (by decide), if_neg (by decide), if_neg (by decide), if_neg (by decide)]
theorem tkB_w {x : Int32} : tkB x = 0 ↔ x = 32 ∨ x = 10 := by
  unfold tkB
  split
  · simp_all
  · split
    · rename_i h1 h2
      constructor
      · intro h; rw [h] at h2; exact absurd h2 (by decide)
      · intro h; exact absurd h h1
    · rename_i h1 h2
      constructor
      · intro h; exact absurd h (by decide)
      · intro h; exact absurd h h1
theorem c_X2_takeMark {d z : Nat} {N : Nat → Nat} {I : Nat → Nat → Int32} {L : Nat → Nat → Int64} {R : Nat → Nat → Option Nat} {Q : qP} {x : Int32} {I0 : Nat → Nat → Int32} {L0 : Nat → Nat → Int64} {R0 : Nat → Nat → Option Nat} {g : Nat → Nat} {s : sg} (hN : mkN z N) (hst : qStat (z, N, I, L, R)) (hm : mkR I0 L0 R0 g s I L R) (hp : R 11 5 = none) (h0 : stT s (tkB x) 0 = none → Q (some (.int 0)) (z, N, I, L, R)) (h1 : ∀ s' I' L' R', stT s (tkB x) 0 = some s' → pend z N I0 L0 R0 g s' I' L' R' → qStat (z, N, I', L', R') → Q (some (.int 1)) (z, N, I', L', R')) : qWP (d + 8) 29 [.ref 11, .int x] (z, N, I, L, R) Q := by
  have hF := hm.1
  have hg := hF.1
  have h4 := hF.2.1
  have hl6 : I 11 6 = nI (gLv s) := hF.2.2.2.2.1.1
  have hl7 : I 11 7 = bI (gBg s) := hF.2.2.2.2.1.2.1
  have hl8 : I 11 8 = bI (gEn s) := hF.2.2.2.2.1.2.2.1
  have hl9 : I 11 9 = bI (gSp s) := hF.2.2.2.2.1.2.2.2
  refine qWP_of m_X2_takeMark rfl rfl [(0, .ref 11), (1, .int x)] rfl ?_
  refine qJ_run (qWP_mono _) [] 400 ?_
  refine ⟨fun (c1 : x = 32) => ?_, fun (c1 : ¬ x = 32) => ?_⟩
  · refine ⟨by first | exact Or.inl rfl | exact Or.inr rfl | (clear h0 h1 hm hF; grind), ?_⟩
    change Q (some (.int 1)) (z, N, I, L, R)
    have hw : tkB x = 0 := tkB_w.mpr (by first | exact Or.inl (by assumption) | exact Or.inr (by assumption))
    rw [hw] at h1
    exact h1 s I L R rfl (Or.inr ⟨hm, hp⟩) hst
  · refine ⟨fun (c2 : ¬ x = 10) => ?_, fun (c2 : x = 10) => ?_⟩
    · refine ⟨fun (c3 : (I 11 8) = 0) => ?_, fun (c3 : ¬ (I 11 8) = 0) => ?_⟩
      · have hen : gEn s = false := by
          have c9 := c3
          rw [hl8] at c9
          exact bI_1.mp c9
        refine ⟨fun c4_0 => ?_, fun c4_0 => ?_⟩
        · replace c4_0 : x = 40 := Int32.toInt_inj.mp c4_0
          refine ⟨fun _ => ?_, fun hx => absurd hx (show ¬ x = 91 from by rw [c4_0]; decide)⟩
          refine ⟨⟨Nat.le_refl _, Nat.le_refl _⟩, ?_⟩
          have hw : tkB x = 40 := by rw [c4_0]; decide
          refine qWP_as (as' := [.ref 11, .int (bI false)]) rfl ?_
          refine c_X2_open (d := d + 1) (b := false) hN hst hm hp hen (fun ea => ?_) (fun s1 I1 L1 R1 ea hpd hst1 => ?_)
          · refine ⟨by first | exact Or.inl rfl | exact Or.inr rfl | (clear h0 h1 hm hF; grind), ?_⟩
            change Q (some (.int 0)) (z, N, I, L, R)
            exact h0 (by rw [hw]; exact ea)
          · refine ⟨by first | exact Or.inl rfl | exact Or.inr rfl | (clear h0 h1 hm hF; grind), ?_⟩
            change Q (some (.int 1)) (z, N, I1, L1, R1)
            exact h1 s1 I1 L1 R1 (by rw [hw]; exact ea) hpd hst1
        replace c4_0 : ¬ x = 40 := fun h => c4_0 (congrArg Int32.toInt h)
        refine ⟨fun c4_1 => ?_, fun c4_1 => ?_⟩
        · replace c4_1 : x = 41 := Int32.toInt_inj.mp c4_1
          refine ⟨fun _ => ?_, fun hx => absurd hx (show ¬ x = 93 from by rw [c4_1]; decide)⟩
          refine ⟨⟨Nat.le_refl _, Nat.le_refl _⟩, ?_⟩
          have hw : tkB x = 41 := by rw [c4_1]; decide
          refine qWP_as (as' := [.ref 11, .int (bI false)]) rfl ?_
          refine c_X2_close (d := d) (b := false) hN hst hm hp hen (fun ea => ?_) (fun s1 I1 L1 R1 ea hpd hst1 => ?_)
          · refine ⟨by first | exact Or.inl rfl | exact Or.inr rfl | (clear h0 h1 hm hF; grind), ?_⟩
            change Q (some (.int 0)) (z, N, I, L, R)
            exact h0 (by rw [hw]; exact ea)
          · refine ⟨by first | exact Or.inl rfl | exact Or.inr rfl | (clear h0 h1 hm hF; grind), ?_⟩
            change Q (some (.int 1)) (z, N, I1, L1, R1)
            exact h1 s1 I1 L1 R1 (by rw [hw]; exact ea) hpd hst1
        replace c4_1 : ¬ x = 41 := fun h => c4_1 (congrArg Int32.toInt h)
        refine ⟨fun c4_2 => ?_, fun c4_2 => ?_⟩
        · replace c4_2 : x = 46 := Int32.toInt_inj.mp c4_2
          refine ⟨⟨Nat.le_refl _, Nat.le_refl _⟩, ?_⟩
          have hw : tkB x = 46 := by rw [c4_2]; decide
          refine c_X2_takePoint (d := d) hN hst hm hp hen (fun ea => ?_) (fun s1 I1 L1 R1 ea hpd hst1 => ?_)
          · refine ⟨by first | exact Or.inl rfl | exact Or.inr rfl | (clear h0 h1 hm hF; grind), ?_⟩
            change Q (some (.int 0)) (z, N, I, L, R)
            exact h0 (by rw [hw]; exact ea)
          · refine ⟨by first | exact Or.inl rfl | exact Or.inr rfl | (clear h0 h1 hm hF; grind), ?_⟩
            change Q (some (.int 1)) (z, N, I1, L1, R1)
            exact h1 s1 I1 L1 R1 (by rw [hw]; exact ea) hpd hst1
        replace c4_2 : ¬ x = 46 := fun h => c4_2 (congrArg Int32.toInt h)
        refine ⟨fun c4_3 => ?_, fun c4_3 => ?_⟩
        · replace c4_3 : x = 91 := Int32.toInt_inj.mp c4_3
          refine ⟨fun hx => absurd (show x = 91 from c4_3) hx, fun _ => ?_⟩
          refine ⟨⟨Nat.le_refl _, Nat.le_refl _⟩, ?_⟩
          have hw : tkB x = 91 := by rw [c4_3]; decide
          refine qWP_as (as' := [.ref 11, .int (bI true)]) rfl ?_
          refine c_X2_open (d := d + 1) (b := true) hN hst hm hp hen (fun ea => ?_) (fun s1 I1 L1 R1 ea hpd hst1 => ?_)
          · refine ⟨by first | exact Or.inl rfl | exact Or.inr rfl | (clear h0 h1 hm hF; grind), ?_⟩
            change Q (some (.int 0)) (z, N, I, L, R)
            exact h0 (by rw [hw]; exact ea)
          · refine ⟨by first | exact Or.inl rfl | exact Or.inr rfl | (clear h0 h1 hm hF; grind), ?_⟩
            change Q (some (.int 1)) (z, N, I1, L1, R1)
            exact h1 s1 I1 L1 R1 (by rw [hw]; exact ea) hpd hst1
        replace c4_3 : ¬ x = 91 := fun h => c4_3 (congrArg Int32.toInt h)
        refine ⟨fun c4_4 => ?_, fun c4_4 => ?_⟩
        · replace c4_4 : x = 93 := Int32.toInt_inj.mp c4_4
          refine ⟨fun hx => absurd (show x = 93 from c4_4) hx, fun _ => ?_⟩
          refine ⟨⟨Nat.le_refl _, Nat.le_refl _⟩, ?_⟩
          have hw : tkB x = 93 := by rw [c4_4]; decide
          refine qWP_as (as' := [.ref 11, .int (bI true)]) rfl ?_
          refine c_X2_close (d := d) (b := true) hN hst hm hp hen (fun ea => ?_) (fun s1 I1 L1 R1 ea hpd hst1 => ?_)
          · refine ⟨by first | exact Or.inl rfl | exact Or.inr rfl | (clear h0 h1 hm hF; grind), ?_⟩
            change Q (some (.int 0)) (z, N, I, L, R)
            exact h0 (by rw [hw]; exact ea)
          · refine ⟨by first | exact Or.inl rfl | exact Or.inr rfl | (clear h0 h1 hm hF; grind), ?_⟩
            change Q (some (.int 1)) (z, N, I1, L1, R1)
            exact h1 s1 I1 L1 R1 (by rw [hw]; exact ea) hpd hst1
        replace c4_4 : ¬ x = 93 := fun h => c4_4 (congrArg Int32.toInt h)
        refine ⟨fun c4_5 => ?_, fun c4_5 => ?_⟩
        · replace c4_5 : x = 124 := Int32.toInt_inj.mp c4_5
          refine ⟨⟨Nat.le_refl _, Nat.le_refl _⟩, ?_⟩
          have hw : tkB x = 124 := by rw [c4_5]; decide
          refine c_X2_takeBar (d := d) hN hst hm hp hen (fun ea => ?_) (fun s1 I1 L1 R1 ea hpd hst1 => ?_)
          · refine ⟨by first | exact Or.inl rfl | exact Or.inr rfl | (clear h0 h1 hm hF; grind), ?_⟩
            change Q (some (.int 0)) (z, N, I, L, R)
            exact h0 (by rw [hw]; exact ea)
          · refine ⟨by first | exact Or.inl rfl | exact Or.inr rfl | (clear h0 h1 hm hF; grind), ?_⟩
            change Q (some (.int 1)) (z, N, I1, L1, R1)
            exact h1 s1 I1 L1 R1 (by rw [hw]; exact ea) hpd hst1
        replace c4_5 : ¬ x = 124 := fun h => c4_5 (congrArg Int32.toInt h)
        refine ⟨by first | exact Or.inl rfl | exact Or.inr rfl | (clear h0 h1 hm hF; grind), ?_⟩
        change Q (some (.int 0)) (z, N, I, L, R)
        have hnw : ¬ tkB x = 0 := fun h9 => by
          rcases tkB_w.mp h9 with h8 | h8 <;> contradiction
        have hw : tkB x = 1 := by
          unfold tkB
          rw [if_neg (fun h9 => hnw (tkB_w.mpr h9)), if_neg (fun h9 => by rcases h9 with h8 | h8 | h8 | h8 | h8 | h8 <;> contradiction)]
        exact h0 (by rw [hw]; exact stT_x)
      · have hen : gEn s = true := by
          have c9 := c3
          rw [hl8] at c9
          cases e : gEn s with
          | true => rfl
          | false => rw [e] at c9; exact absurd rfl c9
        refine ⟨by first | exact Or.inl rfl | exact Or.inr rfl | (clear h0 h1 hm hF; grind), ?_⟩
        change Q (some (.int 0)) (z, N, I, L, R)
        have hnw : ¬ tkB x = 0 := fun h9 => by
          rcases tkB_w.mp h9 with h8 | h8 <;> contradiction
        exact h0 (stT_e hen hnw)
    · refine ⟨by first | exact Or.inl rfl | exact Or.inr rfl | (clear h0 h1 hm hF; grind), ?_⟩
      change Q (some (.int 1)) (z, N, I, L, R)
      have hw : tkB x = 0 := tkB_w.mpr (by first | exact Or.inl (by assumption) | exact Or.inr (by assumption))
      rw [hw] at h1
      exact h1 s I L R rfl (Or.inr ⟨hm, hp⟩) hst
