/-! formulas: the class's maker, a piece -/
theorem st_R {z : Nat} {N N' : Nat → Nat} {I I' : Nat → Nat → Int32} {L L' : Nat → Nat → Int64} {R R' : Nat → Nat → Option Nat} (h : qStat (z, N, I, L, R)) (h1 : ∀ a, a ≠ 11 → a ≠ 12 → R' a = R a) (h2 : ∀ f, f < 4 → R' 11 f = R 11 f) : qStat (z, N', I', L', R') := by
  refine ⟨h.1, fun k hk f c hg => ?_⟩
  have h9 := h.2 k hk f c hg
  show R' k f = some c
  by_cases e : k = 11
  · subst e
    by_cases hf : f < 4
    · rw [h2 f hf]; exact h9
    · exfalso
      have : qG 11 f = none := by
        match f, hf with
        | 0, hf => exact absurd (by decide) hf
        | 1, hf => exact absurd (by decide) hf
        | 2, hf => exact absurd (by decide) hf
        | 3, hf => exact absurd (by decide) hf
        | 4, _ => rfl
        | 5, _ => rfl
        | 6, _ => rfl
        | 7, _ => rfl
        | 8, _ => rfl
        | 9, _ => rfl
        | n + 10, _ => rfl
      rw [this] at hg
      exact absurd hg (by simp)
  · by_cases e2 : k = 12
    · subst e2
      exfalso
      have : qG 12 f = none := by
        match f with
        | 0 => rfl
        | n + 1 => rfl
      rw [this] at hg
      exact absurd hg (by simp)
    · rw [h1 k e e2]; exact h9
def gSw (g : Nat → Nat) (l : Nat) : Nat → Nat := fun i => if i = l then g 5 else if i = 5 then g l else g i
def sw5 (l i : Nat) : Nat := if i = l then 5 else if i = 5 then l else i
theorem gSw_e {g : Nat → Nat} {l i : Nat} : gSw g l i = g (sw5 l i) := by
  unfold gSw sw5
  split
  · rfl
  · split <;> rfl
theorem sw5_lt {l i : Nat} (hl : l < 5) (hi : i < 6) : sw5 l i < 6 := by
  unfold sw5
  split
  · omega
  · split <;> omega
theorem gSw_ok {g : Nat → Nat} {l : Nat} (h : gOk g) (hl : l < 5) : gOk (gSw g l) := by
  obtain ⟨h1, h2⟩ := h
  refine ⟨fun i hi => ?_, fun i j hi hj e => ?_⟩
  · rw [gSw_e]; exact h1 _ (sw5_lt hl hi)
  · rw [gSw_e, gSw_e] at e
    have := h2 _ _ (sw5_lt hl hi) (sw5_lt hl hj) e
    unfold sw5 at this
    by_cases a : i = l
    · rw [if_pos a] at this
      by_cases b : j = l
      · omega
      · rw [if_neg b] at this
        by_cases c : j = 5
        · rw [if_pos c] at this; omega
        · rw [if_neg c] at this; omega
    · rw [if_neg a] at this
      by_cases b : j = l
      · rw [if_pos b] at this
        by_cases c : i = 5
        · rw [if_pos c] at this; omega
        · rw [if_neg c] at this; omega
      · rw [if_neg b] at this
        by_cases c : i = 5
        · rw [if_pos c] at this
          by_cases f : j = 5
          · omega
          · rw [if_neg f] at this; omega
        · rw [if_neg c] at this
          by_cases f : j = 5
          · rw [if_pos f] at this; omega
          · rw [if_neg f] at this; omega
/-- rows and spare change places -/
theorem mkF_sw {I0 I I' : Nat → Nat → Int32} {L0 L : Nat → Nat → Int64} {R0 R R' : Nat → Nat → Option Nat} {g : Nat → Nat} {s s' : sg} (h : mkF I0 L0 R0 g s I L R) (hI : ∀ a, a ≠ 11 → I' a = I a) (hl : gLv s' = gLv s) (hf : I' 11 6 = nI (gLv s') ∧ I' 11 7 = bI (gBg s') ∧ I' 11 8 = bI (gEn s') ∧ I' 11 9 = bI (gSp s')) (ho : gOp s' = gOp s) (hR : ∀ a, a ≠ 11 → a ≠ 12 → R' a = R a) (hR1 : R' 12 = uI (R 12) (gLv s) (some (g 5))) (hR2 : R' 11 4 = some (g (gLv s))) : mkF I0 L0 R0 (gSw g (gLv s)) s' I' L R' := by
  obtain ⟨h1, h2, h3, h4, h5, h6⟩ := h
  refine ⟨gSw_ok h1 (by omega), by omega, fun a ha => ?_, ⟨fun i hi => ?_, fun i hi => ?_, ?_⟩, hf, fun j hj => ?_⟩
  · rw [hI a (by omega), hR a (by omega) (by omega)]; exact h3 a ha
  · rw [hR 13 (by decide) (by decide)]; exact h4.1 i hi
  · rw [hR1]
    unfold gSw
    by_cases e : i = gLv s
    · rw [e, uI_at, if_pos rfl]
    · rw [uI_nj e, if_neg e, if_neg (by omega)]; exact h4.2.1 i hi
  · rw [hR2]
    unfold gSw
    rw [if_neg (by omega), if_pos rfl]
  · rw [hI 14 (by omega), ho]; exact h6 j (by omega)
theorem mkC_sw {I I' I'' : Nat → Nat → Int32} {L L' : Nat → Nat → Int64} {g : Nat → Nat} {s s' : sg} {l : List Nat} (hg : gOk g) (h : mkC g s I L) (h4 : gLv s ≤ 4) (hI : ∀ a, a ≠ g 5 → I' a = I a) (hL : ∀ a, a ≠ g 5 + 1 → L' a = L a) (hl : hsL I' L' (g 5) l) (ho : okS l) (hI2 : ∀ a, a ≠ 11 → I'' a = I' a) (e1 : gLv s' = gLv s) (e2 : gRw s' = upD (gRw s) (gLv s) l) (e3 : gAl s' = gAl s) : mkC (gSw g (gLv s)) s' I'' L' := fun j hj => by
  rw [e1] at hj
  have n5 := rwK_n (hg.1 5 (by omega))
  have nj := rwK_n (hg.1 j (by omega))
  have s5 := seK_n n5.1
  have sj := seK_n nj.1
  rw [e2, e3]
  refine ⟨?_, hsL_I (hsL_fr (h j hj).2.1 hI hL (fun e => n5.2.2 j (by omega) e.symm)) hI2 (by omega), (h j hj).2.2⟩
  unfold gSw
  by_cases e : j = gLv s
  · subst e
    rw [upD_at, if_pos rfl]
    exact ⟨hsL_I hl hI2 (by omega), ho⟩
  · rw [upD_ne e, if_neg e, if_neg (by omega)]
    exact ⟨hsL_I (hsL_fr (h j hj).1.1 hI hL (fun e9 => absurd (hg.2 j 5 (by omega) (by omega) e9) (by omega))) hI2 (by omega), (h j hj).1.2⟩
theorem c_X2_appendPiece0 {d z : Nat} {N : Nat → Nat} {I : Nat → Nat → Int32} {L : Nat → Nat → Int64} {R : Nat → Nat → Option Nat} {Q : qP} (hp : R 11 5 = none) (h : Q none (z, N, I, L, R)) : qWP (d + 1) 36 [.ref 11] (z, N, I, L, R) Q := by
  refine qWP_of m_X2_appendPiece rfl rfl [(0, .ref 11)] rfl ?_
  refine qJ_run (qWP_mono _) [] 400 ?_
  refine ⟨none, hp, ?_⟩
  change Q none (z, N, I, L, R)
  exact h
theorem prI_v {A B : List Nat} (hA : vS A) (hB : vS B) : ∀ K, some K ∈ prI A B → ∃ n, vK K n := fun K hK => by
  simp only [prI, List.mem_flatMap, List.mem_map] at hK
  obtain ⟨a, ha, b, hb, e⟩ := hK
  obtain ⟨n1, h1⟩ := vS_m.mp hA a ha
  obtain ⟨n2, h2⟩ := vS_m.mp hB b hb
  exact ⟨_, (cat_v h1 h2 e).1⟩
theorem c_X2_appendPiece {d z : Nat} {N : Nat → Nat} {I : Nat → Nat → Int32} {L : Nat → Nat → Int64} {R : Nat → Nat → Option Nat} {Q : qP} {I0 : Nat → Nat → Int32} {L0 : Nat → Nat → Int64} {R0 : Nat → Nat → Option Nat} {g : Nat → Nat} {s : sg} (hN : mkN z N) (hst : qStat (z, N, I, L, R)) (hm : mkR I0 L0 R0 g s I L R) {p pr : Nat} {P : List Nat} (hp : R 11 5 = some p) (hSp : stS z N p pr) (hPC : gSp s = false → hsL I L p P ∧ okS P ∧ P.length ≤ pr) (hpg : ∀ j, j < 6 → p ≠ g j) (h : ∀ g' I' L' R', mkR I0 L0 R0 g' (aPc P s) I' L' R' → qStat (z, N, I', L', R') → R' 11 5 = none → Q none (z, N, I', L', R')) : qWP (d + 7) 36 [.ref 11] (z, N, I, L, R) Q := by
  have hF := hm.1
  have hg := hF.1
  have h4 := hF.2.1
  have hl6 : I 11 6 = nI (gLv s) := hF.2.2.2.2.1.1
  have hSr := mkN_r hN hg (show gLv s < 6 by omega)
  have hkr := (rwK_n (hg.1 (gLv s) (by omega))).1
  have h11 : 11 ≠ g (gLv s) := by have := seK_n hkr; omega
  have hSa := mkN_a hN (show gLv s < 5 by omega)
  have hka := alK_n (show gLv s < 5 by omega)
  have hl9 : I 11 9 = bI (gSp s) := hF.2.2.2.2.1.2.2.2
  have hS5 := mkN_r hN hg (show 5 < 6 by omega)
  have hk5 := (rwK_n (hg.1 5 (by omega))).1
  have hgl : g (gLv s) ≠ g 5 := fun e => absurd (hg.2 _ _ (by omega) (by omega) e) (by omega)
  refine qWP_of m_X2_appendPiece rfl rfl [(0, .ref 11)] rfl ?_
  refine qJ_run (qWP_mono _) [44, 57] 400 ?_
  refine ⟨some p, (show R 11 5 = some p from hp), ?_⟩
  refine br_f (show ¬ (I 11 6) < 0 from by rw [hl6]; exact nI_pos (by omega)) ?_
  refine br_t (show (I 11 6) ≤ 4 from by rw [hl6]; exact nI_le (b := 4) h4 (by omega)) ?_
  refine ⟨fun (c3 : ¬ (I 11 9) = 0) => ?_, fun (c3 : (I 11 9) = 0) => ?_⟩
  · have hsp : gSp s = true := by
      have c9 := c3
      rw [hl9] at c9
      cases e : gSp s with
      | true => rfl
      | false => rw [e] at c9; exact absurd rfl c9
    refine ⟨?_, ?_⟩
    · exact trivial
    refine ⟨?_, ?_⟩
    · first | exact Or.inl rfl | exact Or.inr rfl | (clear h; grind)
    change Q none (z, N, q2 I 11 7 1, L, q2 R 11 5 none)
    have e9 : aPc P s = wBg s := by unfold aPc; rw [if_pos hsp]
    have hfo : mkF I0 L0 R0 g (wBg s) (q2 I 11 7 1) L (q2 R 11 5 none) := by
      have hf2 : mkF I0 L0 R0 g (wBg s) (q2 I 11 7 1) L R := mkF_own hF (fun a ha => q2_ne ha) (Nat.le_refl _) ⟨(q2_nj (by decide)).trans hl6, q2_at, (q2_nj (by decide)).trans hF.2.2.2.2.1.2.2.1, (q2_nj (by decide)).trans hl9⟩ rfl
      obtain ⟨a1, a2, a3, a4, a5⟩ := hf2
      refine ⟨a1, a2, fun a ha => ?_, ⟨fun i hi => ?_, fun i hi => ?_, ?_⟩, a5⟩
      · rw [q2_ne (f := R) (by omega)]; exact a3 a ha
      · rw [q2_ne (by decide)]; exact a4.1 i hi
      · rw [q2_ne (by decide)]; exact a4.2.1 i hi
      · rw [q2_nj (by decide)]; exact a4.2.2
    refine h g _ _ _ ?_ ?_ q2_at
    · rw [e9]
      exact ⟨hfo, fun h9 => absurd (h9.symm.trans (show gSp (wBg s) = true from hsp)) (by decide)⟩
    · exact st_R hst (fun a ha _ => q2_ne ha) (fun f hf => q2_nj (by omega))
  · have hsp : gSp s = false := by
      have c9 := c3
      rw [hl9] at c9
      exact bI_1.mp c9
    have hC := hm.2 hsp
    have hR1 := (hC (gLv s) (Nat.le_refl _)).1
    have hPC2 := hPC hsp
    refine ⟨?_, ?_⟩
    · show vp_in (I 11 6) 5
      rw [hl6]
      exact vp_in_nI (by omega) (by omega)
    refine ⟨some (g (gLv s)), (show R 12 (Int32.toNatClampNeg (I 11 6)) = some (g (gLv s)) by rw [hl6, nI_clamp (by omega)]; exact hF.2.2.2.1.2.1 _ (by omega)), ?_⟩
    refine ⟨some (g 5), (show R 11 4 = some (g 5) from hF.2.2.2.1.2.2), ?_⟩
    change qJ m_X2_appendPiece (qWP _) Q 44 [(1, .ref (g (gLv s))), (0, .ref 11)] [.ref (g 5)] _ _ (z, N, I, L, R)
    refine qJ_run (qWP_mono _) [44, 57] 400 ?_
    refine st_call rfl (fun _ h => h) hS5.1 rfl (Nat.lt_of_succ_lt hS5.2.2.2.1) ?_
    refine ⟨⟨Nat.le_refl _, Nat.le_refl _⟩, ?_⟩
    refine c_X9_clear1 (d := d + 5) hS5 fun I1 hf1 hc1 => ?_
    refine ⟨some (g 5), (show R 11 4 = some (g 5) from hF.2.2.2.1.2.2), ?_⟩
    refine ⟨some p, (show R 11 5 = some p from hp), ?_⟩
    change qJ m_X2_appendPiece (qWP _) Q 57 [(1, .ref (g (gLv s))), (0, .ref 11)] [.ref p, .ref (g (gLv s)), .ref (g 5), .ref 11] _ _ (z, N, I1, L, R)
    refine qJ_run (qWP_mono _) [44, 57] 400 ?_
    refine st_call rfl (fun _ h => h) hS5.1 rfl (Nat.lt_of_succ_lt hS5.2.2.2.1) ?_
    refine ⟨⟨Nat.le_refl _, Nat.le_refl _⟩, ?_⟩
    have hR2 : hsL I1 L (g (gLv s)) (gRw s (gLv s)) := hsL_fr hR1.1 hf1 frL_id hgl
    have hP2 : hsL I1 L p P := hsL_fr hPC2.1 hf1 frL_id (hpg 5 (by omega))
    refine c_X9_addPairsF (d := d) hst hS5 hSr hSp hgl (hpg 5 (by omega)) hR2 hP2 hR1.2.1 hPC2.2.2 hR1.2.2 hPC2.2.1.2 hc1 (by decide) (fun ea I2 L2 hf2 hg2 => ?_) (fun l2 I2 L2 ea hf2 hg2 hc2 => ?_)
    · refine ⟨fun h => absurd h (by decide), fun _ => ?_⟩
      refine ⟨?_, ?_⟩
      · first | exact Or.inl rfl | exact Or.inr rfl | (clear h; grind)
      refine ⟨some (g 5), (show R 11 4 = some (g 5) from hF.2.2.2.1.2.2), ?_⟩
      refine ⟨?_, ?_⟩
      · show vp_in (I2 11 6) 5
        rw [show I2 11 6 = nI (gLv s) from by rw [hf2 11 (by have := seK_n hk5; omega), hf1 11 (by have := seK_n hk5; omega)]; exact hl6]
        exact vp_in_nI (by omega) (by omega)
      refine ⟨?_, ?_⟩
      · (intro b hb; obtain rfl := Option.some.inj hb; exact ⟨hS5.1, by have := seK_n hk5; omega, Nat.lt_of_succ_lt hS5.2.2.2.1⟩)
      refine ⟨?_, ?_⟩
      · exact Nat.lt_of_succ_lt hSr.2.2.2.1
      refine ⟨?_, ?_⟩
      · exact trivial
      refine ⟨?_, ?_⟩
      · first | exact Or.inl rfl | exact Or.inr rfl | (clear h; grind)
      change Q none (z, N, q2 (q2 I2 11 9 1) 11 7 1, L2, q2 (q2 (q2 R 12 ((I2 11 6).toNatClampNeg) (some (g 5))) 11 4 (some (g (gLv s)))) 11 5 none)
      have e9 : aPc P s = wBg (wSp s) := by unfold aPc; rw [if_neg (by rw [hsp]; decide), ea]; rfl
      have e11 : ∀ j, I2 11 j = I 11 j := fun j => by rw [hf2 11 (by have := seK_n hk5; omega), hf1 11 (by have := seK_n hk5; omega)]
      have eR : (I2 11 6).toNatClampNeg = gLv s := by rw [e11 6, hl6, nI_clamp (by omega)]
      rw [eR]
      have hI3 : ∀ a, a ≠ 11 → q2 (q2 I2 11 9 1) 11 7 1 a = I2 a := fun a ha => by rw [q2_ne ha, q2_ne ha]
      have hfo : mkF I0 L0 R0 (gSw g (gLv s)) (wBg (wSp s)) (q2 (q2 I2 11 9 1) 11 7 1) L2 (q2 (q2 (q2 R 12 (gLv s) (some (g 5))) 11 4 (some (g (gLv s)))) 11 5 none) := by
        refine mkF_sw (mkF_set (mkF_set hF hk5 hf1 frL_id) hk5 hf2 hg2) hI3 rfl ⟨?_, q2_at, ?_, ?_⟩ rfl (fun a ha hb => by rw [q2_ne ha, q2_ne ha, q2_ne hb]) (by rw [q2_ne (by decide), q2_ne (by decide), q2_r1]) (by rw [q2_nj (by decide), q2_at])
        · rw [q2_nj (by decide), q2_nj (by decide)]; exact (e11 6).trans hl6
        · rw [q2_nj (by decide), q2_nj (by decide)]; exact (e11 8).trans hF.2.2.2.2.1.2.2.1
        · rw [q2_nj (by decide), q2_at]; rfl
      refine h (gSw g (gLv s)) _ _ _ ?_ ?_ q2_at
      · rw [e9]
        exact ⟨hfo, fun h9 => absurd h9 (by simp [wSp, wBg])⟩
      · exact st_R hst (fun a ha hb => by rw [q2_ne ha, q2_ne ha, q2_ne hb]) (fun f hf => by rw [q2_nj (by omega), q2_nj (by omega), q2_ne (by decide)])
    · refine ⟨fun _ => ?_, fun h => absurd h (by decide)⟩
      refine ⟨?_, ?_⟩
      · first | exact Or.inl rfl | exact Or.inr rfl | (clear h; grind)
      refine ⟨some (g 5), (show R 11 4 = some (g 5) from hF.2.2.2.1.2.2), ?_⟩
      refine ⟨?_, ?_⟩
      · show vp_in (I2 11 6) 5
        rw [show I2 11 6 = nI (gLv s) from by rw [hf2 11 (by have := seK_n hk5; omega), hf1 11 (by have := seK_n hk5; omega)]; exact hl6]
        exact vp_in_nI (by omega) (by omega)
      refine ⟨?_, ?_⟩
      · (intro b hb; obtain rfl := Option.some.inj hb; exact ⟨hS5.1, by have := seK_n hk5; omega, Nat.lt_of_succ_lt hS5.2.2.2.1⟩)
      refine ⟨?_, ?_⟩
      · exact Nat.lt_of_succ_lt hSr.2.2.2.1
      refine ⟨?_, ?_⟩
      · exact trivial
      refine ⟨?_, ?_⟩
      · first | exact Or.inl rfl | exact Or.inr rfl | (clear h; grind)
      change Q none (z, N, q2 (q2 I2 11 9 0) 11 7 1, L2, q2 (q2 (q2 R 12 ((I2 11 6).toNatClampNeg) (some (g 5))) 11 4 (some (g (gLv s)))) 11 5 none)
      have e9 : aPc P s = wBg (wRw s l2) := by unfold aPc; rw [if_neg (by rw [hsp]; decide), ea]; rfl
      have e11 : ∀ j, I2 11 j = I 11 j := fun j => by rw [hf2 11 (by have := seK_n hk5; omega), hf1 11 (by have := seK_n hk5; omega)]
      have eR : (I2 11 6).toNatClampNeg = gLv s := by rw [e11 6, hl6, nI_clamp (by omega)]
      rw [eR]
      have hI3 : ∀ a, a ≠ 11 → q2 (q2 I2 11 9 0) 11 7 1 a = I2 a := fun a ha => by rw [q2_ne ha, q2_ne ha]
      have hfo : mkF I0 L0 R0 (gSw g (gLv s)) (wBg (wRw s l2)) (q2 (q2 I2 11 9 0) 11 7 1) L2 (q2 (q2 (q2 R 12 (gLv s) (some (g 5))) 11 4 (some (g (gLv s)))) 11 5 none) := by
        refine mkF_sw (mkF_set (mkF_set hF hk5 hf1 frL_id) hk5 hf2 hg2) hI3 rfl ⟨?_, q2_at, ?_, ?_⟩ rfl (fun a ha hb => by rw [q2_ne ha, q2_ne ha, q2_ne hb]) (by rw [q2_ne (by decide), q2_ne (by decide), q2_r1]) (by rw [q2_nj (by decide), q2_at])
        · rw [q2_nj (by decide), q2_nj (by decide)]; exact (e11 6).trans hl6
        · rw [q2_nj (by decide), q2_nj (by decide)]; exact (e11 8).trans hF.2.2.2.2.1.2.2.1
        · rw [q2_nj (by decide), q2_at]; show (0 : Int32) = bI (gSp s); rw [hsp]; rfl
      refine h (gSw g (gLv s)) _ _ _ ?_ ?_ q2_at
      · rw [e9]
        exact ⟨hfo, fun _ => mkC_sw hg hC h4 (fun a ha => (hf2 a ha).trans (hf1 a ha)) (fun a ha => hg2 a ha) hc2 (okS_add ea ok_nil (prI_v hR1.2.2 hPC2.2.1.2)) hI3 rfl rfl rfl⟩
      · exact st_R hst (fun a ha hb => by rw [q2_ne ha, q2_ne ha, q2_ne hb]) (fun f hf => by rw [q2_nj (by omega), q2_nj (by omega), q2_ne (by decide)])
