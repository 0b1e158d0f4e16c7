/-! formulas: the class's maker, marks -/
/-- what a token leaves: a piece that waits, or none -/
def pend (z : Nat) (N : Nat → Nat) (I0 : Nat → Nat → Int32) (L0 : Nat → Nat → Int64) (R0 : Nat → Nat → Option Nat) (g : Nat → Nat) (s' : sg) (I : Nat → Nat → Int32) (L : Nat → Nat → Int64) (R : Nat → Nat → Option Nat) : Prop :=
  (∃ s1 p pr P, s' = aPc P s1 ∧ mkR I0 L0 R0 g s1 I L R ∧ R 11 5 = some p ∧ stS z N p pr ∧ (gSp s1 = false → hsL I L p P ∧ okS P ∧ P.length ≤ pr) ∧ ∀ j, j < 6 → p ≠ g j) ∨ (mkR I0 L0 R0 g s' I L R ∧ R 11 5 = none)
theorem mkR_p {I0 I : Nat → Nat → Int32} {L0 L : Nat → Nat → Int64} {R0 R : Nat → Nat → Option Nat} {g : Nat → Nat} {s : sg} {x : Option Nat} (h : mkR I0 L0 R0 g s I L R) : mkR I0 L0 R0 g s I L (q2 R 11 5 x) := by
  refine ⟨?_, h.2⟩
  obtain ⟨a1, a2, a3, a4, a5⟩ := h.1
  refine ⟨a1, a2, fun a ha => ?_, ⟨fun i hi => ?_, fun i hi => ?_, ?_⟩, a5⟩
  · rw [q2_ne (f := R) (by omega)]; exact a3 a ha
  · rw [q2_ne (by decide)]; exact a4.1 i hi
  · rw [q2_ne (by decide)]; exact a4.2.1 i hi
  · rw [q2_nj (by decide)]; exact a4.2.2
theorem st_p {z : Nat} {N N' : Nat → Nat} {I I' : Nat → Nat → Int32} {L L' : Nat → Nat → Int64} {R : Nat → Nat → Option Nat} {x : Option Nat} (h : qStat (z, N, I, L, R)) : qStat (z, N', I', L', q2 R 11 5 x) := st_R h (fun a ha _ => q2_ne ha) (fun f hf => q2_nj (by omega))
/-- the maker's own cells moved, all of it -/
theorem mkR_own {I0 I I' : Nat → Nat → Int32} {L0 L : Nat → Nat → Int64} {R0 R : Nat → Nat → Option Nat} {g : Nat → Nat} {s s' : sg} (h : mkR I0 L0 R0 g s I L R) (hI : ∀ a, a ≠ 11 → I' a = I a) (hl : gLv s' ≤ gLv s) (hf : I' 11 6 = nI (gLv s') ∧ I' 11 7 = bI (gBg s') ∧ I' 11 8 = bI (gEn s') ∧ I' 11 9 = bI (gSp s')) (ho : gOp s' = gOp s) (hr : gRw s' = gRw s) (ha : gAl s' = gAl s) (hs : gSp s' = false → gSp s = false) : mkR I0 L0 R0 g s' I' L R :=
  ⟨mkF_own h.1 hI hl hf ho, fun h9 => mkC_own h.1.1 (h.2 (hs h9)) hI hl h.1.2.1 hr ha⟩
theorem stT_p {s : sg} (h : gEn s = false) : stT s 46 0 = if gBg s = true ∧ gLv s = 0 then some (wEn (eRow s)) else none := by
  unfold stT
  rw [if_neg (by decide), if_neg (by rw [h]; decide), if_neg (by decide), if_neg (by decide), if_neg (by decide), if_neg (by decide), if_pos rfl]
theorem stT_b {s : sg} (h : gEn s = false) : stT s 124 0 = if gBg s = true then some (sRow (eRow s)) else none := by
  unfold stT
  rw [if_neg (by decide), if_neg (by rw [h]; decide), if_neg (by decide), if_neg (by decide), if_neg (by decide), if_pos rfl]
def opB (b : Bool) : Int32 := if b = true then 91 else 40
def clB (b : Bool) : Int32 := if b = true then 93 else 41
theorem stT_o {s : sg} {b : Bool} (h : gEn s = false) : stT s (opB b) 0 = if gLv s < 4 then some (sLev (gLv s + 1) b s) else none := by
  unfold stT opB
  cases b
  · rw [if_neg (by decide), if_neg (by rw [h]; decide), if_neg (by decide), if_pos (by decide)]; rfl
  · rw [if_neg (by decide), if_neg (by rw [h]; decide), if_neg (by decide), if_pos (by decide)]; rfl
theorem stT_c {s : sg} {b : Bool} (h : gEn s = false) : stT s (clB b) 0 = if 1 ≤ gLv s ∧ gBg s = true ∧ gOp s (gLv s) = b then some (aPc (gAl (cLv b s) (gLv s)) (dLv (cLv b s))) else none := by
  unfold stT clB
  cases b
  · rw [if_neg (by decide), if_neg (by rw [h]; decide), if_neg (by decide), if_neg (by decide), if_pos (by decide)]; rfl
  · rw [if_neg (by decide), if_neg (by rw [h]; decide), if_neg (by decide), if_neg (by decide), if_pos (by decide)]; rfl
theorem c_X2_takePoint {d z : Nat} {N : Nat → Nat} {I : Nat → Nat → Int32} {L : Nat → Nat → Int64} {R : Nat → Nat → Option Nat} {Q : qP} {I0 : Nat → Nat → Int32} {L0 : Nat → Nat → Int64} {R0 : Nat → Nat → Option Nat} {g : Nat → Nat} {s : sg} (hN : mkN z N) (hst : qStat (z, N, I, L, R)) (hm : mkR I0 L0 R0 g s I L R) (hp : R 11 5 = none) (hen : gEn s = false) (h0 : stT s 46 0 = none → Q (some (.int 0)) (z, N, I, L, R)) (h1 : ∀ s' I' L' R', stT s 46 0 = some s' → pend z N I0 L0 R0 g s' I' L' R' → qStat (z, N, I', L', R') → Q (some (.int 1)) (z, N, I', L', R')) : qWP (d + 7) 33 [.ref 11] (z, N, I, L, R) Q := by
  have hF := hm.1
  have hg := hF.1
  have h4 := hF.2.1
  have hl6 : I 11 6 = nI (gLv s) := hF.2.2.2.2.1.1
  have hl7 : I 11 7 = bI (gBg s) := hF.2.2.2.2.1.2.1
  have hl8 : I 11 8 = bI (gEn s) := hF.2.2.2.2.1.2.2.1
  have hl9 : I 11 9 = bI (gSp s) := hF.2.2.2.2.1.2.2.2
  refine qWP_of m_X2_takePoint rfl rfl [(0, .ref 11)] rfl ?_
  refine qJ_run (qWP_mono _) [] 400 ?_
  refine ⟨fun (c1 : (I 11 7) = 0) => ?_, fun (c1 : ¬ (I 11 7) = 0) => ?_⟩
  · have hbg : gBg s = false := by
      have c9 := c1
      rw [hl7] at c9
      exact bI_1.mp c9
    refine ⟨by first | exact Or.inl rfl | exact Or.inr rfl | (clear h0 h1; grind), ?_⟩
    change Q (some (.int 0)) (z, N, I, L, R)
    exact h0 (by rw [stT_p hen, if_neg (fun h9 => by first | (rw [hbg] at h9; exact absurd h9.1 (by decide)) | exact hlv h9.2)])
  · have hbg : gBg s = true := by
      have c9 := c1
      rw [hl7] at c9
      cases e : gBg s with
      | true => rfl
      | false => rw [e] at c9; exact absurd rfl c9
    refine ⟨fun (c2 : (I 11 6) = 0) => ?_, fun (c2 : ¬ (I 11 6) = 0) => ?_⟩
    · have hlv : gLv s = 0 := by
        have c9 := c2
        rw [hl6] at c9
        exact (nI_eq (b := 0) (by omega) (by omega)).mp c9
      refine ⟨⟨Nat.le_refl _, Nat.le_refl _⟩, ?_⟩
      refine c_X2_endRow (d := d) hN hm fun I1 L1 hm1 => ?_
      refine ⟨?_, ?_⟩
      · first | exact Or.inl rfl | exact Or.inr rfl | (clear h0 h1; grind)
      refine ⟨by first | exact Or.inl rfl | exact Or.inr rfl | (clear h0 h1; grind), ?_⟩
      change Q (some (.int 1)) (z, N, q2 I1 11 8 1, L1, R)
      refine h1 (wEn (eRow s)) _ _ R (by rw [stT_p hen, if_pos ⟨hbg, hlv⟩]) (Or.inr ⟨?_, hp⟩) hst
      exact mkR_own hm1 (fun a ha => q2_ne ha) (Nat.le_refl _) ⟨(q2_nj (by decide)).trans hm1.1.2.2.2.2.1.1, (q2_nj (by decide)).trans hm1.1.2.2.2.2.1.2.1, q2_at, (q2_nj (by decide)).trans hm1.1.2.2.2.2.1.2.2.2⟩ rfl rfl rfl id
    · have hlv : ¬ gLv s = 0 := fun h9 => by
        have c9 := c2
        rw [hl6, h9] at c9
        exact c9 rfl
      refine ⟨by first | exact Or.inl rfl | exact Or.inr rfl | (clear h0 h1; grind), ?_⟩
      change Q (some (.int 0)) (z, N, I, L, R)
      exact h0 (by rw [stT_p hen, if_neg (fun h9 => by first | (rw [hbg] at h9; exact absurd h9.1 (by decide)) | exact hlv h9.2)])
theorem c_X2_takeBar {d z : Nat} {N : Nat → Nat} {I : Nat → Nat → Int32} {L : Nat → Nat → Int64} {R : Nat → Nat → Option Nat} {Q : qP} {I0 : Nat → Nat → Int32} {L0 : Nat → Nat → Int64} {R0 : Nat → Nat → Option Nat} {g : Nat → Nat} {s : sg} (hN : mkN z N) (hst : qStat (z, N, I, L, R)) (hm : mkR I0 L0 R0 g s I L R) (hp : R 11 5 = none) (hen : gEn s = false) (h0 : stT s 124 0 = none → Q (some (.int 0)) (z, N, I, L, R)) (h1 : ∀ s' I' L' R', stT s 124 0 = some s' → pend z N I0 L0 R0 g s' I' L' R' → qStat (z, N, I', L', R') → Q (some (.int 1)) (z, N, I', L', R')) : qWP (d + 7) 32 [.ref 11] (z, N, I, L, R) Q := by
  have hF := hm.1
  have hg := hF.1
  have h4 := hF.2.1
  have hl6 : I 11 6 = nI (gLv s) := hF.2.2.2.2.1.1
  have hl7 : I 11 7 = bI (gBg s) := hF.2.2.2.2.1.2.1
  have hl8 : I 11 8 = bI (gEn s) := hF.2.2.2.2.1.2.2.1
  have hl9 : I 11 9 = bI (gSp s) := hF.2.2.2.2.1.2.2.2
  refine qWP_of m_X2_takeBar rfl rfl [(0, .ref 11)] rfl ?_
  refine qJ_run (qWP_mono _) [] 400 ?_
  refine ⟨fun (c1 : ¬ (I 11 7) = 0) => ?_, fun (c1 : (I 11 7) = 0) => ?_⟩
  · have hbg : gBg s = true := by
      have c9 := c1
      rw [hl7] at c9
      cases e : gBg s with
      | true => rfl
      | false => rw [e] at c9; exact absurd rfl c9
    refine ⟨⟨Nat.le_refl _, Nat.le_refl _⟩, ?_⟩
    refine c_X2_endRow (d := d) hN hm fun I1 L1 hm1 => ?_
    refine ⟨⟨Nat.le_refl _, Nat.le_refl _⟩, ?_⟩
    refine c_X2_startRow (d := d + 2) hN hm1.1 (fun h9 => mkCr_of (hm1.2 h9)) fun I2 L2 hm2 => ?_
    refine ⟨by first | exact Or.inl rfl | exact Or.inr rfl | (clear h0 h1; grind), ?_⟩
    change Q (some (.int 1)) (z, N, I2, L2, R)
    exact h1 (sRow (eRow s)) _ _ R (by rw [stT_b hen, if_pos hbg]) (Or.inr ⟨hm2, hp⟩) hst
  · have hbg : gBg s = false := by
      have c9 := c1
      rw [hl7] at c9
      exact bI_1.mp c9
    refine ⟨by first | exact Or.inl rfl | exact Or.inr rfl | (clear h0 h1; grind), ?_⟩
    change Q (some (.int 0)) (z, N, I, L, R)
    exact h0 (by rw [stT_b hen, if_neg (by rw [hbg]; decide)])
theorem c_X2_open {d z : Nat} {N : Nat → Nat} {I : Nat → Nat → Int32} {L : Nat → Nat → Int64} {R : Nat → Nat → Option Nat} {Q : qP} {I0 : Nat → Nat → Int32} {L0 : Nat → Nat → Int64} {R0 : Nat → Nat → Option Nat} {g : Nat → Nat} {s : sg} (hN : mkN z N) (hst : qStat (z, N, I, L, R)) (hm : mkR I0 L0 R0 g s I L R) {b : Bool} (hp : R 11 5 = none) (hen : gEn s = false) (h0 : stT s (opB b) 0 = none → Q (some (.int 0)) (z, N, I, L, R)) (h1 : ∀ s' I' L' R', stT s (opB b) 0 = some s' → pend z N I0 L0 R0 g s' I' L' R' → qStat (z, N, I', L', R') → Q (some (.int 1)) (z, N, I', L', R')) : qWP (d + 6) 30 [.ref 11, .int (bI b)] (z, N, I, L, R) Q := by
  have hF := hm.1
  have hg := hF.1
  have h4 := hF.2.1
  have hl6 : I 11 6 = nI (gLv s) := hF.2.2.2.2.1.1
  have hl7 : I 11 7 = bI (gBg s) := hF.2.2.2.2.1.2.1
  have hl8 : I 11 8 = bI (gEn s) := hF.2.2.2.2.1.2.2.1
  have hl9 : I 11 9 = bI (gSp s) := hF.2.2.2.2.1.2.2.2
  refine qWP_of m_X2_open rfl rfl [(0, .ref 11), (1, .int (bI b))] rfl ?_
  refine qJ_run (qWP_mono _) [] 400 ?_
  refine br_f (show ¬ (I 11 6) < 0 from by rw [hl6]; exact nI_pos (by omega)) ?_
  refine ⟨fun (c2 : (I 11 6) < 4) => ?_, fun (c2 : ¬ (I 11 6) < 4) => ?_⟩
  · have hlv : gLv s < 4 := by
      have c9 := c2
      rw [hl6] at c9
      exact (nI_ltI (b := 4) (by omega) (by omega)).mp c9
    refine ⟨⟨Nat.le_refl _, Nat.le_refl _⟩, ?_⟩
    have e1 : I 11 6 + 1 = nI (gLv s + 1) := by rw [hl6, nI_1]
    refine qWP_as (as' := [.ref 11, .int (nI (gLv s + 1)), .int (bI b)]) (show [Value.ref 11, .int (I 11 6 + 1), .int (bI b)] = _ by rw [e1]) ?_
    refine c_X2_startLevel (d := d) hN hF hm.2 (Nat.le_refl _) hlv fun I1 L1 hm1 => ?_
    refine ⟨by first | exact Or.inl rfl | exact Or.inr rfl | (clear h0 h1; grind), ?_⟩
    change Q (some (.int 1)) (z, N, I1, L1, R)
    exact h1 (sLev (gLv s + 1) b s) _ _ R (by rw [stT_o hen, if_pos hlv]) (Or.inr ⟨hm1, hp⟩) hst
  · have hlv : ¬ gLv s < 4 := fun h9 => c2 (by rw [hl6]; exact nI_lt (b := 4) h9 (by omega))
    refine ⟨by first | exact Or.inl rfl | exact Or.inr rfl | (clear h0 h1; grind), ?_⟩
    change Q (some (.int 0)) (z, N, I, L, R)
    exact h0 (by rw [stT_o hen, if_neg hlv])
theorem c_X2_close {d z : Nat} {N : Nat → Nat} {I : Nat → Nat → Int32} {L : Nat → Nat → Int64} {R : Nat → Nat → Option Nat} {Q : qP} {I0 : Nat → Nat → Int32} {L0 : Nat → Nat → Int64} {R0 : Nat → Nat → Option Nat} {g : Nat → Nat} {s : sg} (hN : mkN z N) (hst : qStat (z, N, I, L, R)) (hm : mkR I0 L0 R0 g s I L R) {b : Bool} (hp : R 11 5 = none) (hen : gEn s = false) (h0 : stT s (clB b) 0 = none → Q (some (.int 0)) (z, N, I, L, R)) (h1 : ∀ s' I' L' R', stT s (clB b) 0 = some s' → pend z N I0 L0 R0 g s' I' L' R' → qStat (z, N, I', L', R') → Q (some (.int 1)) (z, N, I', L', R')) : qWP (d + 7) 31 [.ref 11, .int (bI b)] (z, N, I, L, R) Q := by
  have hF := hm.1
  have hg := hF.1
  have h4 := hF.2.1
  have hl6 : I 11 6 = nI (gLv s) := hF.2.2.2.2.1.1
  have hl7 : I 11 7 = bI (gBg s) := hF.2.2.2.2.1.2.1
  have hl8 : I 11 8 = bI (gEn s) := hF.2.2.2.2.1.2.2.1
  have hl9 : I 11 9 = bI (gSp s) := hF.2.2.2.2.1.2.2.2
  have ho14 : I 14 (I 11 6).toNatClampNeg = bI (gOp s (gLv s)) := by rw [hl6, nI_clamp (by omega)]; exact hF.2.2.2.2.2 _ (Nat.le_refl _)
  refine qWP_of m_X2_close rfl rfl [(0, .ref 11), (1, .int (bI b))] rfl ?_
  refine qJ_run (qWP_mono _) [39, 73] 400 ?_
  refine ⟨fun (c1 : (I 11 6) < 1) => ?_, fun (c1 : ¬ (I 11 6) < 1) => ?_⟩
  · have hlv : ¬ 1 ≤ gLv s := fun h9 => by
      have c9 := c1
      rw [hl6] at c9
      exact nI_nlt (a := gLv s) (b := 1) h9 (by omega) c9
    refine ⟨by first | exact Or.inl rfl | exact Or.inr rfl | (clear h0 h1; grind), ?_⟩
    change Q (some (.int 0)) (z, N, I, L, R)
    exact h0 (by rw [stT_c hen, if_neg (fun h9 => by first | exact hlv h9.1 | exact hop h9.2.2 | (rw [hbg] at h9; exact absurd h9.2.1 (by decide)))])
  · have hlv : 1 ≤ gLv s := by
      refine Decidable.byContradiction fun h9 => c1 ?_
      rw [hl6]
      exact nI_lt (b := 1) (by omega) (by omega)
    refine br_f (show ¬ 4 < (I 11 6) from by rw [hl6]; exact Int32.not_lt.mpr (nI_le (b := 4) h4 (by omega))) ?_
    refine ⟨fun (c3 : (I 11 7) = 0) => ?_, fun (c3 : ¬ (I 11 7) = 0) => ?_⟩
    · have hbg : gBg s = false := by
        have c9 := c3
        rw [hl7] at c9
        exact bI_1.mp c9
      refine ⟨by first | exact Or.inl rfl | exact Or.inr rfl | (clear h0 h1; grind), ?_⟩
      change Q (some (.int 0)) (z, N, I, L, R)
      exact h0 (by rw [stT_c hen, if_neg (fun h9 => by first | exact hlv h9.1 | exact hop h9.2.2 | (rw [hbg] at h9; exact absurd h9.2.1 (by decide)))])
    · have hbg : gBg s = true := by
        have c9 := c3
        rw [hl7] at c9
        cases e : gBg s with
        | true => rfl
        | false => rw [e] at c9; exact absurd rfl c9
      refine ⟨?_, ?_⟩
      · show vp_in (I 11 6) 5
        rw [hl6]
        exact vp_in_nI (by omega) (by omega)
      refine ⟨fun (c4 : (I 14 ((I 11 6).toNatClampNeg)) = (bI b)) => ?_, fun (c4 : ¬ (I 14 ((I 11 6).toNatClampNeg)) = (bI b)) => ?_⟩
      · have hop : gOp s (gLv s) = b := by
          have c9 := c4
          rw [ho14] at c9
          revert c9
          cases gOp s (gLv s) <;> cases b <;> decide
        change qJ m_X2_close (qWP _) Q 39 [(0, .ref 11), (1, .int (bI b))] [.ref 11] _ _ (z, N, I, L, R)
        refine qJ_run (qWP_mono _) [39, 73] 400 ?_
        refine ⟨⟨Nat.le_refl _, Nat.le_refl _⟩, ?_⟩
        refine c_X2_endRow (d := d) hN hm fun I1 L1 hm1 => ?_
        have eK := eRow_K s
        have hq6 : I1 11 6 = nI (gLv s) := hm1.1.2.2.2.2.1.1.trans (by rw [eK.1])
        have hq7 : I1 11 7 = bI (gBg (eRow s)) := hm1.1.2.2.2.2.1.2.1
        have hq8 : I1 11 8 = bI (gEn (eRow s)) := hm1.1.2.2.2.2.1.2.2.1
        have hq9 : I1 11 9 = bI (gSp (eRow s)) := hm1.1.2.2.2.2.1.2.2.2
        have hSa := mkN_a hN (show gLv s < 5 by omega)
        have hka := alK_n (show gLv s < 5 by omega)
        have hdl : nI (gLv s) - 1 = nI (gLv s - 1) := pk_sub (b := 1) hlv
        have hpg : ∀ j, j < 6 → 21 + 4 * gLv s ≠ g j := fun j hj e => (rwK_n (hg.1 j hj)).2.2 (gLv s) (by omega) e.symm
        have eLv := eK.1
        refine ⟨?_, ?_⟩
        · show vp_in (I1 11 6) 5
          rw [hq6]
          exact vp_in_nI (by omega) (by omega)
        refine ⟨some (21 + 4 * gLv s), (show R 13 (Int32.toNatClampNeg (I1 11 6)) = some (21 + 4 * gLv s) by rw [hq6, nI_clamp (by omega)]; exact hF.2.2.2.1.1 _ (by omega)), ?_⟩
        refine ⟨?_, ?_⟩
        · exact Nat.lt_of_succ_lt hSa.2.2.2.1
        refine ⟨fun (c5 : (bI b) = 0) => ?_, fun (c5 : ¬ (bI b) = 0) => ?_⟩
        · have hb : b = false := bI_1.mp c5
          refine ⟨by first | exact Or.inl rfl | exact Or.inr rfl | (clear h0 h1; grind), ?_⟩
          change Q (some (.int 1)) (z, N, q2 I1 11 6 ((I1 11 6) - 1), L1, q2 R 11 5 (some (21 + 4 * gLv s)))
          have e9 : cLv b s = eRow s := by unfold cLv oPt; rw [if_neg (by rw [hb]; decide)]
          refine h1 _ _ _ _ (by rw [stT_c hen, if_pos ⟨hlv, hbg, hop⟩]) (Or.inl ⟨dLv (cLv b s), 21 + 4 * gLv s, 200, gAl (cLv b s) (gLv s), rfl, mkR_p ?_, q2_at, hSa, fun hsp2 => ?_, hpg⟩) (st_p hst)
          · rw [e9]
            exact mkR_own hm1 (fun a ha => q2_ne ha) (Nat.sub_le _ _) ⟨q2_at.trans (by rw [hq6, hdl]; show _ = nI (gLv (eRow s) - 1); rw [eLv]), (q2_nj (by decide)).trans hq7, (q2_nj (by decide)).trans hq8, (q2_nj (by decide)).trans hq9⟩ rfl rfl rfl id
          · rw [e9] at hsp2 ⊢
            have g2 := (hm1.2 hsp2 (gLv s) (by omega)).2
            exact ⟨hsL_I g2.1 (fun a ha => q2_ne ha) (by omega), g2.2, g2.2.1⟩
        · have hb : b = true := by
            have c9 := c5
            revert c9
            cases b <;> decide
          refine ⟨fun (c6 : ¬ (I1 11 9) = 0) => ?_, fun (c6 : (I1 11 9) = 0) => ?_⟩
          · have hsp : gSp (eRow s) = true := by
              have c9 := c6
              rw [hq9] at c9
              cases e : gSp (eRow s) with
              | true => rfl
              | false => rw [e] at c9; exact absurd rfl c9
            refine ⟨?_, ?_⟩
            · first | exact Or.inl rfl | exact Or.inr rfl | (clear h0 h1; grind)
            refine ⟨by first | exact Or.inl rfl | exact Or.inr rfl | (clear h0 h1; grind), ?_⟩
            change Q (some (.int 1)) (z, N, q2 (q2 I1 11 9 1) 11 6 ((I1 11 6) - 1), L1, q2 R 11 5 (some (21 + 4 * gLv s)))
            have e9 : cLv b s = eRow s := by unfold cLv oPt; rw [if_pos hb, if_pos hsp]
            refine h1 _ _ _ _ (by rw [stT_c hen, if_pos ⟨hlv, hbg, hop⟩]) (Or.inl ⟨dLv (cLv b s), 21 + 4 * gLv s, 200, gAl (cLv b s) (gLv s), rfl, mkR_p ?_, q2_at, hSa, fun hsp2 => ?_, hpg⟩) (st_p hst)
            · rw [e9]
              exact mkR_own hm1 (fun a ha => by rw [q2_ne ha, q2_ne ha]) (Nat.sub_le _ _) ⟨q2_at.trans (by rw [hq6, hdl]; show _ = nI (gLv (eRow s) - 1); rw [eLv]), (q2_nj (by decide)).trans ((q2_nj (by decide)).trans hq7), (q2_nj (by decide)).trans ((q2_nj (by decide)).trans hq8), (q2_nj (by decide)).trans (q2_at.trans (by show 1 = bI (gSp (eRow s)); rw [hsp]; rfl))⟩ rfl rfl rfl id
            · rw [e9] at hsp2
              exact absurd (hsp2.symm.trans hsp) (by decide)
          · have hsp : gSp (eRow s) = false := by
              have c9 := c6
              rw [hq9] at c9
              exact bI_1.mp c9
            have hC1 := hm1.2 hsp
            have hA1 := (hC1 (gLv s) (by omega)).2
            refine ⟨some (21 + 4 * gLv s), (show q2 R 11 5 (some (21 + 4 * gLv s)) 11 5 = _ from q2_at), ?_⟩
            change qJ m_X2_close (qWP _) Q 73 [(0, .ref 11), (1, .int (bI b))] [.long 0, .long 0, .ref (21 + 4 * gLv s), .ref 11] _ _ (z, N, I1, L1, q2 R 11 5 (some (21 + 4 * gLv s)))
            refine qJ_run (qWP_mono _) [39, 73] 400 ?_
            refine st_call rfl (fun _ h => h) hSa.1 rfl (Nat.lt_of_succ_lt hSa.2.2.2.1) ?_
            refine ⟨⟨Nat.le_refl _, Nat.le_refl _⟩, ?_⟩
            refine qWP_as (as' := [.ref (21 + 4 * gLv s), .long (lN (0 / 2 ^ 60)), .long (lN (0 % 2 ^ 60))]) rfl ?_
            refine c_X9_addF (d := d + 3) hSa hA1.1 hA1.2.1 (by decide) (fun ea => ?_) (fun l2 I2 L2 ea hf2 hg2 hc2 => ?_)
            · refine ⟨fun h => absurd h (by decide), fun _ => ?_⟩
              refine ⟨?_, ?_⟩
              · first | exact Or.inl rfl | exact Or.inr rfl | (clear h0 h1; grind)
              refine ⟨by first | exact Or.inl rfl | exact Or.inr rfl | (clear h0 h1; grind), ?_⟩
              change Q (some (.int 1)) (z, N, q2 (q2 I1 11 9 1) 11 6 ((I1 11 6) - 1), L1, q2 R 11 5 (some (21 + 4 * gLv s)))
              have e9 : cLv b s = wSp (eRow s) := by unfold cLv oPt; rw [if_pos hb, if_neg (by rw [hsp]; decide), eLv, ← addI1, ea]; rfl
              refine h1 _ _ _ _ (by rw [stT_c hen, if_pos ⟨hlv, hbg, hop⟩]) (Or.inl ⟨dLv (cLv b s), 21 + 4 * gLv s, 200, gAl (cLv b s) (gLv s), rfl, mkR_p ?_, q2_at, hSa, fun hsp2 => ?_, hpg⟩) (st_p hst)
              · rw [e9]
                exact mkR_own hm1 (fun a ha => by rw [q2_ne ha, q2_ne ha]) (Nat.sub_le _ _) ⟨q2_at.trans (by rw [hq6, hdl]; show _ = nI (gLv (eRow s) - 1); rw [eLv]), (q2_nj (by decide)).trans ((q2_nj (by decide)).trans hq7), (q2_nj (by decide)).trans ((q2_nj (by decide)).trans hq8), (q2_nj (by decide)).trans q2_at⟩ rfl rfl rfl (fun h9 => absurd h9 (by simp [wSp, dLv]))
              · rw [e9] at hsp2
                exact absurd hsp2 (by simp [wSp, dLv])
            · refine ⟨fun _ => ?_, fun h => absurd h (by decide)⟩
              refine ⟨?_, ?_⟩
              · first | exact Or.inl rfl | exact Or.inr rfl | (clear h0 h1; grind)
              refine ⟨by first | exact Or.inl rfl | exact Or.inr rfl | (clear h0 h1; grind), ?_⟩
              change Q (some (.int 1)) (z, N, q2 (q2 I2 11 9 0) 11 6 ((I2 11 6) - 1), L2, (q2 R 11 5 (some (21 + 4 * gLv s))))
              have e9 : cLv b s = wAl (eRow s) l2 := by unfold cLv oPt; rw [if_pos hb, if_neg (by rw [hsp]; decide), eLv, ← addI1, ea]; rfl
              have okl : okS l2 := okS_add ea hA1.2 (fun K hK => by
                obtain rfl : K = 0 := by simpa using hK
                exact ⟨0, vK_0⟩)
              have hf3 : ∀ j, I2 11 j = I1 11 j := fun j => by rw [hf2 11 (by have := seK_n hka; omega)]
              have hm2 : mkR I0 L0 R0 g (wAl (eRow s) l2) I2 L2 R := by
                refine ⟨mkF_set hm1.1 hka hf2 hg2, fun _ => ?_⟩
                have e21 : 21 + 4 * gLv s = 21 + 4 * gLv (eRow s) := by rw [eLv]
                rw [e21] at hf2 hg2 hc2
                exact mkC_all hg hC1 hm1.1.2.1 hf2 hg2 hc2 okl
              rw [hf3 6]
              refine h1 _ _ _ _ (by rw [stT_c hen, if_pos ⟨hlv, hbg, hop⟩]) (Or.inl ⟨dLv (cLv b s), 21 + 4 * gLv s, 200, gAl (cLv b s) (gLv s), rfl, mkR_p ?_, q2_at, hSa, fun hsp2 => ?_, hpg⟩) (st_p hst)
              · rw [e9]
                exact mkR_own hm2 (fun a ha => by rw [q2_ne ha, q2_ne ha]) (Nat.sub_le _ _) ⟨q2_at.trans (by rw [hq6, hdl]; show _ = nI (gLv (eRow s) - 1); rw [eLv]), (q2_nj (by decide)).trans ((q2_nj (by decide)).trans ((hf3 7).trans hq7)), (q2_nj (by decide)).trans ((q2_nj (by decide)).trans ((hf3 8).trans hq8)), (q2_nj (by decide)).trans (q2_at.trans (by show 0 = bI (gSp (eRow s)); rw [hsp]; rfl))⟩ rfl rfl rfl id
              · rw [e9]
                show hsL _ _ _ (upD (gAl (eRow s)) (gLv (eRow s)) l2 (gLv s)) ∧ okS (upD (gAl (eRow s)) (gLv (eRow s)) l2 (gLv s)) ∧ (upD (gAl (eRow s)) (gLv (eRow s)) l2 (gLv s)).length ≤ 200
                rw [eLv, upD_at]
                exact ⟨hsL_I hc2 (fun a ha => by rw [q2_ne ha, q2_ne ha]) (by omega), okl, okl.1⟩
      · have hop : ¬ gOp s (gLv s) = b := fun h9 => c4 (by rw [ho14, h9])
        refine ⟨by first | exact Or.inl rfl | exact Or.inr rfl | (clear h0 h1; grind), ?_⟩
        change Q (some (.int 0)) (z, N, I, L, R)
        exact h0 (by rw [stT_c hen, if_neg (fun h9 => by first | exact hlv h9.1 | exact hop h9.2.2 | (rw [hbg] at h9; exact absurd h9.2.1 (by decide)))])
