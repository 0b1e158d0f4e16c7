/-! formulas: the operation -/
theorem txt_of {K k : Nat} {le : Nat → Int32} (h : vK K k) (hl : ∀ j, j < k → le j = nI (dg K j - 1)) : txt1 (lN (K / 2 ^ 60)) (lN (K % 2 ^ 60)) (nI k) le := by
  have hK : K < 2 ^ 120 := Nat.lt_of_lt_of_le h.2.1 (by decide)
  have k24 := h.1
  have t1 : (lN (K / 2 ^ 60)).toInt = ((K / 2 ^ 60 : Nat) : Int) := pk_lT (by omega)
  have t2 : (lN (K % 2 ^ 60)).toInt = ((K % 2 ^ 60 : Nat) : Int) := pk_lT (by omega)
  have tx : ∀ j, j < 24 → (if j < 12 then tx5 (lN (K / 2 ^ 60)) j else tx5 (lN (K % 2 ^ 60)) (j - 12)) = dg K j := fun j hj => by
    unfold tx5 dg
    rw [t1, t2, Int.toNat_natCast, Int.toNat_natCast, pw32]
    have : j = 0 ∨ j = 1 ∨ j = 2 ∨ j = 3 ∨ j = 4 ∨ j = 5 ∨ j = 6 ∨ j = 7 ∨ j = 8 ∨ j = 9 ∨ j = 10 ∨ j = 11 ∨ j = 12 ∨ j = 13 ∨ j = 14 ∨ j = 15 ∨ j = 16 ∨ j = 17 ∨ j = 18 ∨ j = 19 ∨ j = 20 ∨ j = 21 ∨ j = 22 ∨ j = 23 := by omega
    rcases this with rfl | rfl | rfl | rfl | rfl | rfl | rfl | rfl | rfl | rfl | rfl | rfl | rfl | rfl | rfl | rfl | rfl | rfl | rfl | rfl | rfl | rfl | rfl | rfl <;> (simp (decide := true) only [Nat.reduceSub, Nat.reduceMul, Nat.reducePow, Nat.reduceLT, if_true, if_false]; omega)
  refine ⟨Int64.le_iff_toInt_le.mpr (by rw [t1]; exact Int.natCast_nonneg _), by rw [t1]; omega, Int64.le_iff_toInt_le.mpr (by rw [t2]; exact Int.natCast_nonneg _), by rw [t2]; omega, nI_pos' (by omega), nI_le (b := 24) k24 (by omega), fun j hj => ?_⟩
  rw [tx j hj]
  have g := h.2.2 j hj
  by_cases h9 : j < k
  · have g1 := g.1 h9
    rw [if_pos (nI_lt h9 (by omega)), hl j h9, nI_toInt (by omega)]
    exact ⟨by omega, fun _ => ⟨nI_pos' (by omega), nI_le (b := 26) (by omega) (by omega)⟩⟩
  · have h8 : ¬ nI j < nI k := nI_nlt (by omega) (by omega)
    rw [if_neg h8, g.2 (by omega)]
    exact ⟨rfl, fun h7 => absurd h7 h8⟩
theorem txt_le2 {h t : Int64} {sz : Int32} {le le' : Nat → Int32} (h9 : txt1 h t sz le) (e : ∀ k, k < 24 → le' k = le k) : txt1 h t sz le' := by
  obtain ⟨a1, a2, a3, a4, a5, a6, a7⟩ := h9
  exact ⟨a1, a2, a3, a4, a5, a6, fun k hk => by rw [e k hk]; exact a7 k hk⟩
theorem hk_f : ∀ F : Nat, F < 8 → qK (96 + 2 * F) = 9 ∧ qK (97 + 2 * F) = 15 ∧ qSz (97 + 2 * F) = none := by decide +kernel
/-- all but tape, maker and formulas -/
theorem qInv_k {z z2 : Nat} {N N2 : Nat → Nat} {I J : Nat → Nat → Int32} {L K : Nat → Nat → Int64} {R S : Nat → Nat → Option Nat} (h : qInv (z, N, I, L, R)) (hst : qStat (z2, N2, J, K, S)) (e1 : ∀ a, (a < 11 ∨ 38 < a) → a < 96 → a ≠ 2 → a ≠ 9 → a ≠ 65 → a ≠ 72 → a ≠ 73 → a ≠ 74 → a ≠ 75 → a ≠ 76 → J a = I a) (e2 : ∀ j, j < 15 → j ≠ 6 → j ≠ 2 → J 65 j = I 65 j) (e3 : ∀ a, (a < 11 ∨ 38 < a) → a < 96 → K a = L a) (h9 : J 9 1 = 0) (h6 : J 65 6 = 0) (hTx : RTx z2 N2 J K S) (hMk : RMk N2 S) : qInv (z2, N2, J, K, S) := by
  obtain ⟨_, hSt, hHa, hTo, hTp, hEd, hDa, hPe, hTr, _, _, hKA⟩ := h
  dsimp only at hSt hHa hTo hTp hEd hDa hPe hTr hKA
  refine ⟨hst, ?_, ?_, ?_, ?_, ?_, ?_, ?_, ?_, hTx, hMk, ?_⟩
  · simp (decide := true) only [e1, e2]; exact hSt
  · simp (decide := true) only [e1, e2]; exact hHa
  · simp (decide := true) only [e1, e2]; exact hTo
  · dsimp only; rw [h9, h6]; exact ⟨rfl, by decide, by decide, fun x a b => absurd a (Int32.not_le.mpr b)⟩
  · simp (decide := true) only [e1, e2]; exact hEd
  · simp (decide := true) only [e1, e2]; exact hDa
  · simp (decide := true) only [e1, e2, e3]; exact hPe
  · simp (decide := true) only [e1, e2]; exact hTr
  · simp (decide := true) only [e1, e2]; exact hKA
theorem mk_R {N : Nat → Nat} {R R' : Nat → Nat → Option Nat} {I0 I : Nat → Nat → Int32} {L0 L : Nat → Nat → Int64} {R0 : Nat → Nat → Option Nat} {g : Nat → Nat} {s : sg} (h : RMk N R0) (hm : mkR I0 L0 R0 g s I L R) (hR : ∀ a, a = 11 ∨ a = 12 ∨ a = 13 → R' a = R a) {N' : Nat → Nat} (hN : ∀ k, k < 96 → N' k = N k) : RMk N' R' := by
  obtain ⟨_, _, h3, h4⟩ := h
  obtain ⟨⟨a1, a2, a3, ⟨b1, b2, b3⟩, a5⟩, _⟩ := hm
  refine ⟨fun i hi => by rw [hR 13 (by omega)]; exact b1 i hi, ⟨g, fun i hi => by rw [hR 12 (by omega)]; exact b2 i hi, by rw [hR 11 (by omega)]; exact b3, a1.1, a1.2⟩, (hN 16 (by decide)).trans h3, fun k hk => ?_⟩
  have : k < 95 := by
    revert k
    decide
  rw [hN (k + 1) (by omega)]
  exact h4 k hk
theorem RTx_new {z F : Nat} {N : Nat → Nat} {I I' I2 : Nat → Nat → Int32} {L L' : Nat → Nat → Int64} {R R' : Nat → Nat → Option Nat} {s' : sg} {e : Nat → Int64} (hz : z = 94 + 2 * F) (hF : F < 8) (hTx : RTx z N I L R) (h25 : I 2 5 = nI F) (hfr : ∀ a, (a < 11 ∨ 38 < a) → I' a = I a ∧ L' a = L a ∧ R' a = R a) (ok : okS (gAl s' 0)) (hr : rowL e (gAl s' 0)) (hf : frZ (q2 (q2 (qRow (qRow (q2 I' 9 1 0) (z + 2) (fun _ => 0)) (z + 3) (fun _ => 0)) (z + 2) 1 (nI (gAl s' 0).length)) 2 5 (nI (F + 1))) I2 F (gAl s' 0)) : RTx (z + 2) (qUp N (z + 3) (2 * (gAl s' 0).length)) I2 (qRow (qRow L' (z + 3) (fun _ => 0)) (z + 3) e) (q2 (q2 (qRow R' (z + 2) (fun _ => none)) (z + 2) 0 (some (z + 3))) 39 F (some (z + 2))) := by
  obtain ⟨f1, f2, f3, f4, f5, f6, f7, f8⟩ := hf
  obtain ⟨g1, g2, g3, g4, g5⟩ := hTx
  have hcl : (I 2 5).toNatClampNeg = F := by rw [h25, nI_clamp (by omega)]
  rw [hcl] at g4 g5
  have hI25 : I2 2 5 = nI (F + 1) := by rw [f1 2 (by decide) (by decide) (by decide) (by decide) (by decide) (by decide), q2_at]
  have hcl2 : (I2 2 5).toNatClampNeg = F + 1 := by rw [hI25, nI_clamp (by omega)]
  have hJ : ∀ a, a ≠ 2 → a ≠ 9 → a ≠ z + 2 → a ≠ z + 3 → (q2 (q2 (qRow (qRow (q2 I' 9 1 0) (z + 2) (fun _ => 0)) (z + 3) (fun _ => 0)) (z + 2) 1 (nI (gAl s' 0).length)) 2 5 (nI (F + 1))) a = I' a := fun a a1 a2 a3 a4 => by rw [q2_ne a1, q2_ne a3, qRow_ne a4, qRow_ne a3, q2_ne a2]
  refine ⟨f4.trans hI25.symm, by rw [hI25]; exact nI_pos' (by omega), by rw [hI25]; exact nI_le (b := 8) (by omega) (by omega), by rw [hcl2]; omega, fun f hf9 => ?_⟩
  rw [hcl2] at hf9
  have e76 : I2 76 f = uI (I 76) F (nI (gAl s' 0).length) f := by rw [f5, hJ 76 (by decide) (by decide) (by omega) (by omega), (hfr 76 (by decide)).1]
  by_cases h9 : f = F
  · subst h9
    have hJz : I2 (96 + 2 * f) 1 = nI (gAl s' 0).length := by
      rw [f1 _ (by omega) (by omega) (by omega) (by omega) (by omega) (by omega), q2_ne (by omega), show 96 + 2 * f = z + 2 by omega, q2_at]
    rw [e76, uI_at, hJz, nI_clamp (by have := ok.1; omega)]
    refine ⟨by rw [q2_at, show z + 2 = 96 + 2 * f by omega], rfl, nI_pos' (by have := ok.1; omega), nI_le (b := 200) ok.1 (by omega), by rw [show 97 + 2 * f = z + 3 by omega]; simp [qUp], fun i hi => ?_⟩
    obtain ⟨k, v1, v2, v3⟩ := f8 i hi
    have r1 := hr i hi
    rw [show 97 + 2 * f = z + 3 by omega, qRow_at, r1.2.1, r1.2.2, v2]
    exact txt_of v1 v3
  · have hlt : f < F := by omega
    obtain ⟨p1, p2, p3, p4, p5, p6⟩ := g5 f hlt
    have e96 : I2 (96 + 2 * f) = I (96 + 2 * f) := by
      rw [f1 _ (by omega) (by omega) (by omega) (by omega) (by omega) (by omega), hJ _ (by omega) (by omega) (by omega) (by omega), (hfr _ (by omega)).1]
    have eR : (q2 (q2 (qRow R' (z + 2) (fun _ => none)) (z + 2) 0 (some (z + 3))) 39 F (some (z + 2))) 39 f = R 39 f := by rw [q2_nj h9, q2_ne (by omega), qRow_ne (by omega), (hfr 39 (by decide)).2.2]
    have eL : (qRow (qRow L' (z + 3) (fun _ => 0)) (z + 3) e) (97 + 2 * f) = L (97 + 2 * f) := by rw [qRow_ne (by omega), qRow_ne (by omega), (hfr _ (by omega)).2.1]
    rw [e76, uI_nj h9, e96, eR, eL, qUp_ne (by omega)]
    refine ⟨p1, p2, p3, p4, p5, fun i hi => ?_⟩
    have hi2 : i < 200 := by
      have := Int32.le_iff_toInt_le.mp p4
      rw [show (200 : Int32).toInt = 200 from rfl] at this
      rw [tcn] at hi
      omega
    have e75 : I2 75 (200 * f + i) = I 75 (200 * f + i) := by rw [f6 _ (by omega), hJ 75 (by decide) (by decide) (by omega) (by omega), (hfr 75 (by decide)).1]
    rw [e75]
    exact txt_le2 (p6 i hi) fun k hk => by rw [f7 _ (by omega), hJ 74 (by decide) (by decide) (by omega) (by omega), (hfr 74 (by decide)).1]
theorem op_formula {M : qM} (hI : qInv M)  : qOp 128 193 [] M := by
  obtain ⟨z, N, I, L, R⟩ := M
  obtain ⟨hst, hSt, hHa, hTo, hTp, hEd, hDa, hPe, hTr, hTx, hMk, hKA⟩ := hI
  dsimp only at hst hSt hHa hTo hTp hEd hDa hPe hTr hTx hMk hKA
  have hI0 : qInv (z, N, I, L, R) := ⟨hst, hSt, hHa, hTo, hTp, hEd, hDa, hPe, hTr, hTx, hMk, hKA⟩
  obtain ⟨F, hF8, hF⟩ : ∃ F : Nat, F ≤ 8 ∧ I 2 5 = nI F := nI_of2 (n := 8) rfl (Int32.not_lt.mpr hTx.2.1) hTx.2.2.1
  obtain ⟨n, h200, hn⟩ : ∃ n : Nat, n ≤ 200 ∧ I 9 1 = nI n := nI_of2 (n := 200) rfl (Int32.not_lt.mpr hTp.2.1) hTp.2.2.1
  have hz : z = 94 + 2 * F := by
    have := hTx.2.2.2.1
    rw [hF, nI_clamp (by omega)] at this
    exact this
  have hN : mkN z N := ⟨by omega, hMk.2.2.1, hMk.2.2.2⟩
  obtain ⟨g, gA, gB, gC, gD9⟩ := hMk.2.1
  have hkf := hk_f F
  have hT : ∀ J : Nat → Nat → Int32, J 65 6 = I 65 6 → J 69 = I 69 → tpR n (bT I) J := fun J j1 j2 => ⟨by rw [j1, hTp.1, hn], h200, fun p hp => by
    rw [j2]
    have := (hTp.2.2.2 (nI p) (nI_pos' (by omega)) (by rw [hn]; exact nI_lt hp (by omega))).1
    rw [nI_clamp (by omega)] at this
    exact this⟩
  have fr_o : ∀ (g' : Nat → Nat) (s' : sg) (I' : Nat → Nat → Int32) (L' : Nat → Nat → Int64) (R' : Nat → Nat → Option Nat) (I2 : Nat → Nat → Int32), mkR I L R g' s' I' L' R' → qStat (z, N, I', L', R') → frY (q2 I' 9 1 0) I2 → qInv (z, N, I2, L', R') := fun g' s' I' L' R' I2 hm hst1 hy => by
    have hfr := hm.1.2.2.1
    have e9 : ∀ a, (a < 11 ∨ 38 < a) → a ≠ 9 → a ≠ 65 → a ≠ 72 → a ≠ 73 → I2 a = I a := fun a a1 a2 a3 a4 a5 => by rw [hy.1 a a3 a4 a5, q2_ne a2, (hfr a a1).1]
    have e65 : ∀ j, j < 15 → j ≠ 6 → I2 65 j = I 65 j := fun j j1 j2 => by rw [hy.2.1 j j1 j2, q2_ne (by decide), (hfr 65 (by decide)).1]
    refine qInv_k hI0 (show qStat (z, N, I2, L', R') from hst1) (fun a a1 _ _ a2 a3 a4 a5 _ _ _ => e9 a a1 a2 a3 a4 a5) (fun j j1 j2 _ => e65 j j1 j2) (fun a a1 _ => (hfr a a1).2.1) (by rw [hy.1 9 (by decide) (by decide) (by decide), q2_at]) hy.2.2 ?_ (mk_R hMk hm (fun _ _ => rfl) (fun _ _ => rfl))
    have hTx2 := RTx_of (I' := I2) (L' := L') hTx (e65 2 (by decide) (by decide)) (by rw [e9 2 (by decide) (by decide) (by decide) (by decide) (by decide)]) (e9 76 (by decide) (by decide) (by decide) (by decide) (by decide)) (e9 75 (by decide) (by decide) (by decide) (by decide) (by decide)) (e9 74 (by decide) (by decide) (by decide) (by decide) (by decide)) (fun k hk => e9 k (by omega) (by omega) (by omega) (by omega) (by omega)) (fun k hk => (hfr k (by omega)).2.1)
    unfold RTx at hTx2 ⊢
    rw [show R' 39 = R 39 from (hfr 39 (by decide)).2.2]
    exact hTx2
  refine c_X11_formula (d := 20) hN hst hn h200 ⟨gC, gD9⟩ ⟨hMk.1, gA, gB⟩ hF hF8 (fun h => by rw [hz, show 94 + 2 * F + 2 = 96 + 2 * F by omega, show 94 + 2 * F + 3 = 97 + 2 * F by omega]; exact hkf h) (fun a0 => ?_) (fun f g' s' I' L' R' a0 a1 a2 hm hst1 => ?_) (fun s' g' I' L' R' a0 a1 a2 hm hst1 => ?_) (fun s' g' I' L' R' e a0 a1 a2 hm hst1 hr => ?_)
  · refine ⟨_, rfl, ⟨rfl, rfl, hst⟩, ?_⟩
    refine c_X12_formula (d := 8) (hT I rfl rfl) (hTx.1.trans hF) hF8 (fun _ => ⟨rfl, ⟨rfl, rfl⟩, hI0⟩) (fun I2 f b0 => absurd b0 (by omega)) (fun I2 s2 b0 => absurd b0 (by omega)) (fun I2 s2 b0 => absurd b0 (by omega))
  · have hfr := hm.1.2.2.1
    refine ⟨_, rfl, ⟨by dsimp only; rw [q2_ne (by decide), (hfr 0 (by decide)).1], rfl, hst1⟩, ?_⟩
    refine c_X12_formula (d := 8) (hT _ (by rw [q2_ne (by decide), (hfr 65 (by decide)).1]) (by rw [q2_ne (by decide), (hfr 69 (by decide)).1])) (by rw [q2_ne (by decide), (hfr 65 (by decide)).1]; exact hTx.1.trans hF) hF8 (fun b0 => absurd b0 (by omega)) (fun I2 f2 b0 b1 b2 hy => ?_) (fun I2 s2 b0 b1 => absurd (a1.symm.trans b1) (by simp)) (fun I2 s2 b0 b1 => absurd (a1.symm.trans b1) (by simp))
    obtain rfl : f = f2 := Sum.inl.inj (a1.symm.trans b1)
    exact ⟨rfl, ⟨by dsimp only; rw [hy.1 0 (by decide) (by decide) (by decide), q2_ne (by decide), (hfr 0 (by decide)).1], rfl⟩, fr_o g' s' I' L' R' I2 hm hst1 hy⟩
  · have hfr := hm.1.2.2.1
    refine ⟨_, rfl, ⟨by dsimp only; rw [q2_ne (by decide), (hfr 0 (by decide)).1], rfl, hst1⟩, ?_⟩
    refine c_X12_formula (d := 8) (hT _ (by rw [q2_ne (by decide), (hfr 65 (by decide)).1]) (by rw [q2_ne (by decide), (hfr 69 (by decide)).1])) (by rw [q2_ne (by decide), (hfr 65 (by decide)).1]; exact hTx.1.trans hF) hF8 (fun b0 => absurd b0 (by omega)) (fun I2 f2 b0 b1 => absurd (a1.symm.trans b1) (by simp)) (fun I2 s2 b0 b1 b2 hy => ?_) (fun I2 s2 b0 b1 b2 => ?_)
    · exact ⟨rfl, ⟨by dsimp only; rw [hy.1 0 (by decide) (by decide) (by decide), q2_ne (by decide), (hfr 0 (by decide)).1], rfl⟩, fr_o g' s' I' L' R' I2 hm hst1 hy⟩
    · obtain rfl : s' = s2 := Sum.inr.inj (a1.symm.trans b1)
      exact absurd (a2.symm.trans b2) (by decide)
  · have hfr := hm.1.2.2.1
    have hk9 := hkf a0
    have hkz : qK (z + 2) = 9 ∧ qK (z + 3) = 15 := by rw [hz, show 94 + 2 * F + 2 = 96 + 2 * F by omega, show 94 + 2 * F + 3 = 97 + 2 * F by omega]; exact ⟨hk9.1, hk9.2.1⟩
    have hJ : ∀ a, a ≠ 2 → a ≠ 9 → a ≠ z + 2 → a ≠ z + 3 → (q2 (q2 (qRow (qRow (q2 I' 9 1 0) (z + 2) (fun _ => 0)) (z + 3) (fun _ => 0)) (z + 2) 1 (nI (gAl s' 0).length)) 2 5 (nI (F + 1))) a = I' a := fun a a1 a2 a3 a4 => by rw [q2_ne a1, q2_ne a3, qRow_ne a4, qRow_ne a3, q2_ne a2]
    have hst2 : ∀ J : Nat → Nat → Int32, qStat (z + 2, (qUp N (z + 3) (2 * (gAl s' 0).length)), J, (qRow (qRow L' (z + 3) (fun _ => 0)) (z + 3) e), (q2 (q2 (qRow R' (z + 2) (fun _ => none)) (z + 2) 0 (some (z + 3))) 39 F (some (z + 2)))) := fun J => by
      have h1 : qStat (z + 2, (qUp N (z + 3) (2 * (gAl s' 0).length)), J, (qRow (qRow L' (z + 3) (fun _ => 0)) (z + 3) e), q2 (qRow R' (z + 2) (fun _ => none)) (z + 2) 0 (some (z + 3))) := st_mk hst1 hkz.1 hkz.2
      refine ⟨h1.1, fun k hk f c hg => ?_⟩
      have h2 := h1.2 k hk f c hg
      show (q2 (q2 (qRow R' (z + 2) (fun _ => none)) (z + 2) 0 (some (z + 3))) 39 F (some (z + 2))) k f = some c
      by_cases e39 : k = 39
      · subst e39
        exfalso
        have : qG 39 f = none := by
          match f with
          | 0 => rfl
          | n + 1 => rfl
        rw [this] at hg
        exact absurd hg (by simp)
      · rw [q2_ne e39]; exact h2
    refine ⟨_, rfl, ⟨by dsimp only; rw [hJ 0 (by decide) (by decide) (by omega) (by omega), (hfr 0 (by decide)).1], by simp [qUp], hst2 _⟩, ?_⟩
    refine c_X12_formula (d := 8) (hT _ (by rw [hJ 65 (by decide) (by decide) (by omega) (by omega), (hfr 65 (by decide)).1]) (by rw [hJ 69 (by decide) (by decide) (by omega) (by omega), (hfr 69 (by decide)).1])) (by rw [hJ 65 (by decide) (by decide) (by omega) (by omega), (hfr 65 (by decide)).1]; exact hTx.1.trans hF) hF8 (fun b0 => absurd b0 (by omega)) (fun I2 f2 b0 b1 => absurd (a1.symm.trans b1) (by simp)) (fun I2 s2 b0 b1 b2 => ?_) (fun I2 s2 b0 b1 b2 ok hy => ?_)
    · obtain rfl : s' = s2 := Sum.inr.inj (a1.symm.trans b1)
      exact absurd (a2.symm.trans b2) (by decide)
    · obtain rfl : s' = s2 := Sum.inr.inj (a1.symm.trans b1)
      have e9 : ∀ a, (a < 11 ∨ 38 < a) → a < 96 → a ≠ 2 → a ≠ 9 → a ≠ 65 → a ≠ 72 → a ≠ 73 → a ≠ 74 → a ≠ 75 → a ≠ 76 → I2 a = I a := fun a a1 a2 a3 a4 a5 a6 a7 a8 a9 a10 => by rw [hy.1 a a5 a6 a7 a8 a9 a10, hJ a a3 a4 (by omega) (by omega), (hfr a a1).1]
      refine ⟨rfl, ⟨e9 0 (by decide) (by decide) (by decide) (by decide) (by decide) (by decide) (by decide) (by decide) (by decide) (by decide), by simp [qUp]⟩, ?_⟩
      refine qInv_k hI0 (hst2 _) e9 (fun j j1 j2 j3 => by rw [hy.2.1 j j1 j2 j3, hJ 65 (by decide) (by decide) (by omega) (by omega), (hfr 65 (by decide)).1]) (fun a a1 a2 => by rw [qRow_ne (by omega), qRow_ne (by omega), (hfr a a1).2.1]) (by rw [hy.1 9 (by decide) (by decide) (by decide) (by decide) (by decide) (by decide), q2_ne (by decide), q2_ne (by omega), qRow_ne (by omega), qRow_ne (by omega), q2_at]) hy.2.2.1 (RTx_new hz a0 hTx hF hfr ok hr hy) (mk_R hMk hm (fun a ha => by rw [q2_ne (by omega), q2_ne (by omega), qRow_ne (by omega)]) (fun k hk => qUp_ne (by omega)))
/-! the operation read -/
theorem okR_dec (k v : Int32) : okR k v ∨ ¬ okR k v := Classical.em _
theorem c_X11_read {d z : Nat} {N : Nat → Nat} {I : Nat → Nat → Int32} {L : Nat → Nat → Int64} {R : Nat → Nat → Option Nat} {Q : qP} {a : Int32} {s : Int32} {l : Int32} {p : Int32} {k : Int32} {v : Int32} (hs : 0 ≤ I 3 2 ∧ I 3 2 ≤ 12) (hn : 0 ≤ I 6 2 ∧ I 6 2 ≤ 6) (hl : ∀ x : Int32, 0 ≤ x → x < I 3 2 → I 4 x.toNatClampNeg ≤ 4 ∧ I 5 x.toNatClampNeg ≤ 24) (hst : qStat (z, N, I, L, R)) (h0 : ¬ (((0 ≤ a ∧ a < I 6 2) ∧ ((0 ≤ s ∧ s < I 3 2) ∧ 0 ≤ l ∧ l < I 4 s.toNatClampNeg) ∧ 0 ≤ p ∧ p < I 5 s.toNatClampNeg) ∧ okR k v) → Q (some (.int (-2))) (z, N, I, L, R)) (h1 : ((0 ≤ a ∧ a < I 6 2) ∧ ((0 ≤ s ∧ s < I 3 2) ∧ 0 ≤ l ∧ l < I 4 s.toNatClampNeg) ∧ 0 ≤ p ∧ p < I 5 s.toNatClampNeg) ∧ okR k v → Q (some (.int 1)) (z, N, q2 I 8 (tIx a s l p).toNatClampNeg (fTd k v), L, R)) : qWP (d + 5) 124 [.ref 2, .int a, .int s, .int l, .int p, .int k, .int v] (z, N, I, L, R) Q := by
  refine qWP_of m_X11_read rfl rfl [(0, .ref 2), (1, .int a), (2, .int s), (3, .int l), (4, .int p), (5, .int k), (6, .int v)] rfl ?_
  refine qJ_run (qWP_mono _) [] 400 ?_
  refine ⟨⟨Nat.le_refl _, Nat.le_refl _⟩, ?_⟩
  refine c_X5_hasHand hn fun v1 hv1 => ?_
  refine ⟨fun (c1 : v1 = 0) => ?_, fun (c1 : ¬ v1 = 0) => ?_⟩
  · change Q (some (.int (-2))) (z, N, I, L, R)
    exact h0 (fun h9 => by have h8 := h9.1; clear h0 h1; grind)
  · refine ⟨⟨Nat.le_refl _, Nat.le_refl _⟩, ?_⟩
    refine c_X6_hasPlace hs fun v2 hv2 => ?_
    refine ⟨fun (c2 : ¬ v2 = 0) => ?_, fun (c2 : v2 = 0) => ?_⟩
    · refine ⟨⟨Nat.le_refl _, Nat.le_refl _⟩, ?_⟩
      refine c_X5_told (d := d + 2) hst fun w9 hw9 => ?_
      replace hw9 : w9 = fTd k v := hw9
      subst hw9
      refine ⟨fun (c3 : ¬ (fTd k v) = 0) => ?_, fun (c3 : (fTd k v) = 0) => ?_⟩
      · refine ⟨⟨Nat.le_refl _, Nat.le_refl _⟩, ?_⟩
        have hpl : (0 ≤ a ∧ a < I 6 2) ∧ ((0 ≤ s ∧ s < I 3 2) ∧ 0 ≤ l ∧ l < I 4 s.toNatClampNeg) ∧ 0 ≤ p ∧ p < I 5 s.toNatClampNeg := by clear h0 h1; grind
        have hp : inP s l p := by have := hl s hpl.2.1.1.1 hpl.2.1.1.2; unfold inP; clear h0 h1; grind
        have ha : 0 ≤ a ∧ a < 6 := by clear h0 h1; grind
        refine c_X5_put (d := d + 2) (fun _ _ => ?_) (fun e => absurd (ix_rng ha hp) e)
        change Q (some (.int 1)) (z, N, q2 I 8 ((tIx a s l p).toNatClampNeg) (fTd k v), L, R)
        have hok : okR k v := by
          rcases okR_dec k v with h9 | h9
          · exact h9
          · exact absurd (td_bad h9) c3
        exact h1 ⟨hpl, hok⟩
      · change Q (some (.int (-2))) (z, N, I, L, R)
        exact h0 (fun h9 => (td_ok h9.2).2 c3)
    · change Q (some (.int (-2))) (z, N, I, L, R)
      exact h0 (fun h9 => by have h8 := h9.1; clear h0 h1; grind)
theorem c_X12_read {d z : Nat} {N : Nat → Nat} {I : Nat → Nat → Int32} {L : Nat → Nat → Int64} {R : Nat → Nat → Option Nat} {Q : qP} {a : Int32} {s : Int32} {l : Int32} {p : Int32} {k : Int32} {v : Int32} (hs : 0 ≤ I 65 0 ∧ I 65 0 ≤ 12) (hn : 0 ≤ I 65 1 ∧ I 65 1 ≤ 6) (hl : ∀ x : Int32, 0 ≤ x → x < I 65 0 → I 66 x.toNatClampNeg ≤ 4 ∧ I 67 x.toNatClampNeg ≤ 24) (h0 : ¬ (((0 ≤ a ∧ a < I 65 1) ∧ ((0 ≤ s ∧ s < I 65 0) ∧ 0 ≤ l ∧ l < I 66 s.toNatClampNeg) ∧ 0 ≤ p ∧ p < I 67 s.toNatClampNeg) ∧ okR k v) → Q (some (.int (-2))) (z, N, I, L, R)) (h1 : ((0 ≤ a ∧ a < I 65 1) ∧ ((0 ≤ s ∧ s < I 65 0) ∧ 0 ≤ l ∧ l < I 66 s.toNatClampNeg) ∧ 0 ≤ p ∧ p < I 67 s.toNatClampNeg) ∧ okR k v → Q (some (.int 1)) (z, N, q2 (q2 I 70 (tIx a s l p).toNatClampNeg (k + 1)) 71 (tIx a s l p).toNatClampNeg (fMv k v), L, R)) : qWP (d + 5) 175 [.ref 65, .int a, .int s, .int l, .int p, .int k, .int v] (z, N, I, L, R) Q := by
  refine qWP_of m_X12_read rfl rfl [(0, .ref 65), (1, .int a), (2, .int s), (3, .int l), (4, .int p), (5, .int k), (6, .int v)] rfl ?_
  refine qJ_run (qWP_mono _) [] 400 ?_
  refine ⟨⟨Nat.le_refl _, Nat.le_refl _⟩, ?_⟩
  refine c_X12_isIn fun v1 hv1 => ?_
  refine ⟨fun (c1 : v1 = 0) => ?_, fun (c1 : ¬ v1 = 0) => ?_⟩
  · change Q (some (.int (-2))) (z, N, I, L, R)
    refine h0 (fun h9 => ?_)
    obtain ⟨h8, h7⟩ := h9
    unfold okR at h7
    clear h0 h1
    grind
  · refine ⟨⟨Nat.le_refl _, Nat.le_refl _⟩, ?_⟩
    refine c_X12_isPlace hs fun v2 hv2 => ?_
    refine ⟨fun (c2 : v2 = 0) => ?_, fun (c2 : ¬ v2 = 0) => ?_⟩
    · change Q (some (.int (-2))) (z, N, I, L, R)
      refine h0 (fun h9 => ?_)
      obtain ⟨h8, h7⟩ := h9
      unfold okR at h7
      clear h0 h1
      grind
    · refine ⟨⟨Nat.le_refl _, Nat.le_refl _⟩, ?_⟩
      refine c_X12_isIn fun v3 hv3 => ?_
      refine ⟨fun (c3 : ¬ v3 = 0) => ?_, fun (c3 : v3 = 0) => ?_⟩
      · refine ⟨fun (c4 : k = 3) => ?_, fun (c4 : ¬ k = 3) => ?_⟩
        · refine ⟨⟨Nat.le_refl _, Nat.le_refl _⟩, ?_⟩
          have hpl : (0 ≤ a ∧ a < I 65 1) ∧ ((0 ≤ s ∧ s < I 65 0) ∧ 0 ≤ l ∧ l < I 66 s.toNatClampNeg) ∧ 0 ≤ p ∧ p < I 67 s.toNatClampNeg := by clear h0 h1; grind
          have hp : inP s l p := by have := hl s hpl.2.1.1.1 hpl.2.1.1.2; unfold inP; clear h0 h1; grind
          have ha : 0 ≤ a ∧ a < 6 := by clear h0 h1; grind
          refine c_X12_reads (d := d + 2) (ix_rng ha hp) ?_
          change Q (some (.int 1)) (z, N, q2 (q2 I 70 ((tIx a s l p).toNatClampNeg) (k + 1)) 71 ((tIx a s l p).toNatClampNeg) 134217727, L, R)
          have hok : okR k v := by
            unfold okR
            clear h0 h1
            grind
          have hfm : fMv k v = 134217727 := by
            unfold fMv
            first | rw [if_pos (by clear h0 h1; grind)] | (rw [if_neg (by clear h0 h1; grind), if_pos (by clear h0 h1; grind)]) | (rw [if_neg (by clear h0 h1; grind), if_neg (by clear h0 h1; grind)])
          rw [← hfm]
          exact h1 ⟨hpl, hok⟩
        · refine ⟨fun (c5 : ¬ k = 4) => ?_, fun (c5 : k = 4) => ?_⟩
          · refine ⟨fun (c6 : ¬ k = 2) => ?_, fun (c6 : k = 2) => ?_⟩
            · refine ⟨⟨Nat.le_refl _, Nat.le_refl _⟩, ?_⟩
              refine c_X12_isIn fun v5 hv5 => ?_
              refine ⟨fun (c7 : ¬ v5 = 0) => ?_, fun (c7 : v5 = 0) => ?_⟩
              · refine ⟨fun _ => ?_, fun hx => absurd hx (show ¬ k = 2 from c6)⟩
                refine ⟨⟨Nat.le_refl _, Nat.le_refl _⟩, ?_⟩
                have hpl : (0 ≤ a ∧ a < I 65 1) ∧ ((0 ≤ s ∧ s < I 65 0) ∧ 0 ≤ l ∧ l < I 66 s.toNatClampNeg) ∧ 0 ≤ p ∧ p < I 67 s.toNatClampNeg := by clear h0 h1; grind
                have hp : inP s l p := by have := hl s hpl.2.1.1.1 hpl.2.1.1.2; unfold inP; clear h0 h1; grind
                have ha : 0 ≤ a ∧ a < 6 := by clear h0 h1; grind
                refine c_X12_reads (d := d + 2) (ix_rng ha hp) ?_
                change Q (some (.int 1)) (z, N, q2 (q2 I 70 ((tIx a s l p).toNatClampNeg) (k + 1)) 71 ((tIx a s l p).toNatClampNeg) ((1 : Int32) <<< (v &&& 31)), L, R)
                have hok : okR k v := by
                  unfold okR
                  clear h0 h1
                  grind
                have hfm : fMv k v = (1 : Int32) <<< (v &&& 31) := by
                  unfold fMv
                  first | rw [if_pos (by clear h0 h1; grind)] | (rw [if_neg (by clear h0 h1; grind), if_pos (by clear h0 h1; grind)]) | (rw [if_neg (by clear h0 h1; grind), if_neg (by clear h0 h1; grind)])
                rw [← hfm]
                exact h1 ⟨hpl, hok⟩
              · change Q (some (.int (-2))) (z, N, I, L, R)
                refine h0 (fun h9 => ?_)
                obtain ⟨h8, h7⟩ := h9
                unfold okR at h7
                clear h0 h1
                grind
            · refine ⟨fun (c9 : v < 0) => ?_, fun (c9 : ¬ v < 0) => ?_⟩
              · change Q (some (.int (-2))) (z, N, I, L, R)
                refine h0 (fun h9 => ?_)
                obtain ⟨h8, h7⟩ := h9
                unfold okR at h7
                clear h0 h1
                grind
              · refine ⟨fun (c10 : 134217727 < v) => ?_, fun (c10 : ¬ 134217727 < v) => ?_⟩
                · change Q (some (.int (-2))) (z, N, I, L, R)
                  refine h0 (fun h9 => ?_)
                  obtain ⟨h8, h7⟩ := h9
                  unfold okR at h7
                  clear h0 h1
                  grind
                · refine ⟨fun (c11 : ¬ (v &&& (v - 1)) = 0) => ?_, fun (c11 : (v &&& (v - 1)) = 0) => ?_⟩
                  · refine ⟨fun hx => absurd (show k = 2 from c6) hx, fun _ => ?_⟩
                    refine ⟨⟨Nat.le_refl _, Nat.le_refl _⟩, ?_⟩
                    have hpl : (0 ≤ a ∧ a < I 65 1) ∧ ((0 ≤ s ∧ s < I 65 0) ∧ 0 ≤ l ∧ l < I 66 s.toNatClampNeg) ∧ 0 ≤ p ∧ p < I 67 s.toNatClampNeg := by clear h0 h1; grind
                    have hp : inP s l p := by have := hl s hpl.2.1.1.1 hpl.2.1.1.2; unfold inP; clear h0 h1; grind
                    have ha : 0 ≤ a ∧ a < 6 := by clear h0 h1; grind
                    refine c_X12_reads (d := d + 2) (ix_rng ha hp) ?_
                    change Q (some (.int 1)) (z, N, q2 (q2 I 70 ((tIx a s l p).toNatClampNeg) (k + 1)) 71 ((tIx a s l p).toNatClampNeg) v, L, R)
                    have hok : okR k v := by
                      unfold okR
                      clear h0 h1
                      grind
                    have hfm : fMv k v = v := by
                      unfold fMv
                      first | rw [if_pos (by clear h0 h1; grind)] | (rw [if_neg (by clear h0 h1; grind), if_pos (by clear h0 h1; grind)]) | (rw [if_neg (by clear h0 h1; grind), if_neg (by clear h0 h1; grind)])
                    rw [← hfm]
                    exact h1 ⟨hpl, hok⟩
                  · change Q (some (.int (-2))) (z, N, I, L, R)
                    refine h0 (fun h9 => ?_)
                    obtain ⟨h8, h7⟩ := h9
                    unfold okR at h7
                    clear h0 h1
                    grind
          · refine ⟨⟨Nat.le_refl _, Nat.le_refl _⟩, ?_⟩
            have hpl : (0 ≤ a ∧ a < I 65 1) ∧ ((0 ≤ s ∧ s < I 65 0) ∧ 0 ≤ l ∧ l < I 66 s.toNatClampNeg) ∧ 0 ≤ p ∧ p < I 67 s.toNatClampNeg := by clear h0 h1; grind
            have hp : inP s l p := by have := hl s hpl.2.1.1.1 hpl.2.1.1.2; unfold inP; clear h0 h1; grind
            have ha : 0 ≤ a ∧ a < 6 := by clear h0 h1; grind
            refine c_X12_reads (d := d + 2) (ix_rng ha hp) ?_
            change Q (some (.int 1)) (z, N, q2 (q2 I 70 ((tIx a s l p).toNatClampNeg) (k + 1)) 71 ((tIx a s l p).toNatClampNeg) 134217727, L, R)
            have hok : okR k v := by
              unfold okR
              clear h0 h1
              grind
            have hfm : fMv k v = 134217727 := by
              unfold fMv
              first | rw [if_pos (by clear h0 h1; grind)] | (rw [if_neg (by clear h0 h1; grind), if_pos (by clear h0 h1; grind)]) | (rw [if_neg (by clear h0 h1; grind), if_neg (by clear h0 h1; grind)])
            rw [← hfm]
            exact h1 ⟨hpl, hok⟩
      · change Q (some (.int (-2))) (z, N, I, L, R)
        refine h0 (fun h9 => ?_)
        obtain ⟨h8, h7⟩ := h9
        unfold okR at h7
        clear h0 h1
        grind
theorem op_read {M : qM} (hI : qInv M) (a : Int32) (s : Int32) (l : Int32) (p : Int32) (k : Int32) (v : Int32) : qOp 124 175 [.int a, .int s, .int l, .int p, .int k, .int v] M := by
  obtain ⟨z, N, I, L, R⟩ := M
  obtain ⟨hst, hSt, hHa, hTo, hTp, hEd, hDa, hPe, hTr, hTx, hMk, hKA⟩ := hI
  dsimp only at hst hSt hHa hTo hTp hEd hDa hPe hTr hTx hMk hKA
  have hs : 0 ≤ I 3 2 ∧ I 3 2 ≤ 12 := ⟨hSt.2.1, hSt.2.2.1⟩
  have hn : 0 ≤ I 6 2 ∧ I 6 2 ≤ 6 := ⟨hHa.2.1, hHa.2.2.1⟩
  have hl : ∀ x : Int32, 0 ≤ x → x < I 3 2 → I 4 x.toNatClampNeg ≤ 4 ∧ I 5 x.toNatClampNeg ≤ 24 := fun x a b => ⟨(hSt.2.2.2 x a b).2.2.1, (hSt.2.2.2 x a b).2.2.2.2.2⟩
  have hs2 : 0 ≤ I 65 0 ∧ I 65 0 ≤ 12 := by rw [hSt.1]; exact hs
  have hl2 : ∀ x : Int32, 0 ≤ x → x < I 65 0 → I 66 x.toNatClampNeg ≤ 4 ∧ I 67 x.toNatClampNeg ≤ 24 := fun x a b => by
    rw [hSt.1] at b
    rw [(hSt.2.2.2 x a b).1, (hSt.2.2.2 x a b).2.2.2.1]
    exact hl x a b
  have hn2 : 0 ≤ I 65 1 ∧ I 65 1 ≤ 6 := by rw [hHa.1]; exact hn
  refine c_X11_read hs hn hl hst (fun a0 => ?_) (fun a0 => ?_)
  · refine ⟨_, rfl, ⟨rfl, rfl, hst⟩, ?_⟩
    refine c_X12_read (by first | exact hs2 | (simp (decide := true) only [q2_ne, q2_r1, uI_at, uI_nj, qRow_ne, qRow_at]; exact hs2)) (by first | exact hn2 | (simp (decide := true) only [q2_ne, q2_r1, uI_at, uI_nj, qRow_ne, qRow_at]; exact hn2)) (by first | exact hl2 | (simp (decide := true) only [q2_ne, q2_r1, uI_at, uI_nj, qRow_ne, qRow_at]; exact hl2)) (fun b0 => ?_) (fun b0 => ?_)
    · exact ⟨rfl, ⟨by first | rfl | (simp (decide := true) only [q2_ne, q2_r1, uI_at, uI_nj, qRow_ne, qRow_at]), rfl⟩, ⟨hst, (by first | exact hSt | (simp (decide := true) only [q2_ne, q2_r1, uI_at, uI_nj, qRow_ne, qRow_at]; exact hSt)), (by first | exact hHa | (simp (decide := true) only [q2_ne, q2_r1, uI_at, uI_nj, qRow_ne, qRow_at]; exact hHa)), (by first | exact hTo | (simp (decide := true) only [q2_ne, q2_r1, uI_at, uI_nj, qRow_ne, qRow_at]; exact hTo)), (by first | exact hTp | (simp (decide := true) only [q2_ne, q2_r1, uI_at, uI_nj, qRow_ne, qRow_at]; exact hTp)), (by first | exact hEd | (simp (decide := true) only [q2_ne, q2_r1, uI_at, uI_nj, qRow_ne, qRow_at]; exact hEd)), (by first | exact hDa | (simp (decide := true) only [q2_ne, q2_r1, uI_at, uI_nj, qRow_ne, qRow_at]; exact hDa)), (by first | exact hPe | (simp (decide := true) only [q2_ne, q2_r1, uI_at, uI_nj, qRow_ne, qRow_at]; exact hPe)), (by first | exact hTr | (simp (decide := true) only [q2_ne, q2_r1, uI_at, uI_nj, qRow_ne, qRow_at]; exact hTr)), (RTx_of hTx (by simp (decide := true) only [q2_ne, q2_r1, uI_at, uI_nj, qRow_ne, qRow_at]) (by simp (decide := true) only [q2_ne, q2_r1, uI_at, uI_nj, qRow_ne, qRow_at]) (by simp (decide := true) only [q2_ne, q2_r1, uI_at, uI_nj, qRow_ne, qRow_at]) (by simp (decide := true) only [q2_ne, q2_r1, uI_at, uI_nj, qRow_ne, qRow_at]) (by simp (decide := true) only [q2_ne, q2_r1, uI_at, uI_nj, qRow_ne, qRow_at]) (fun k hk => by (try dsimp only); repeat first | rfl | rw [q2_ne (by omega)] | rw [qRow_ne (by omega)]) (fun k hk => by (try dsimp only); repeat first | rfl | rw [q2_ne (by omega)] | rw [qRow_ne (by omega)])), (by first | exact hMk | (simp (decide := true) only [q2_ne, q2_r1, uI_at, uI_nj, qRow_ne, qRow_at]; exact hMk)), (by first | exact hKA | (simp (decide := true) only [q2_ne, q2_r1, uI_at, uI_nj, qRow_ne, qRow_at]; exact hKA))⟩⟩
    · exfalso; (try simp (decide := true) only [q2_ne, q2_r1, uI_at, uI_nj, qRow_ne, qRow_at] at *); (try simp only [place_eq hSt] at *); (try simp only [line_eq hSt] at *); (try rw [hSt.1] at *); (try rw [hHa.1] at *); clear hst hSt hHa hTo hTp hEd hDa hPe hTr hTx hMk hKA hl hl2; grind
  · refine ⟨_, rfl, ⟨by simp (decide := true) only [q2_ne, q2_r1, uI_at, uI_nj, qRow_ne, qRow_at], rfl, hst⟩, ?_⟩
    refine c_X12_read (by first | exact hs2 | (simp (decide := true) only [q2_ne, q2_r1, uI_at, uI_nj, qRow_ne, qRow_at]; exact hs2)) (by first | exact hn2 | (simp (decide := true) only [q2_ne, q2_r1, uI_at, uI_nj, qRow_ne, qRow_at]; exact hn2)) (by first | exact hl2 | (simp (decide := true) only [q2_ne, q2_r1, uI_at, uI_nj, qRow_ne, qRow_at]; exact hl2)) (fun b0 => ?_) (fun b0 => ?_)
    · exfalso; (try simp (decide := true) only [q2_ne, q2_r1, uI_at, uI_nj, qRow_ne, qRow_at] at *); (try simp only [place_eq hSt] at *); (try simp only [line_eq hSt] at *); (try rw [hSt.1] at *); (try rw [hHa.1] at *); clear hst hSt hHa hTo hTp hEd hDa hPe hTr hTx hMk hKA hl hl2; grind
    · exact ⟨rfl, ⟨by first | rfl | (simp (decide := true) only [q2_ne, q2_r1, uI_at, uI_nj, qRow_ne, qRow_at]), rfl⟩, ⟨hst, (by first | exact hSt | (simp (decide := true) only [q2_ne, q2_r1, uI_at, uI_nj, qRow_ne, qRow_at]; exact hSt)), (by first | exact hHa | (simp (decide := true) only [q2_ne, q2_r1, uI_at, uI_nj, qRow_ne, qRow_at]; exact hHa)), (by simp (decide := true) only [q2_ne, q2_r1, uI_at, uI_nj, qRow_ne, qRow_at]; exact RTo_put hTo (td_ok a0.2).1), (by first | exact hTp | (simp (decide := true) only [q2_ne, q2_r1, uI_at, uI_nj, qRow_ne, qRow_at]; exact hTp)), (by first | exact hEd | (simp (decide := true) only [q2_ne, q2_r1, uI_at, uI_nj, qRow_ne, qRow_at]; exact hEd)), (by first | exact hDa | (simp (decide := true) only [q2_ne, q2_r1, uI_at, uI_nj, qRow_ne, qRow_at]; exact hDa)), (by first | exact hPe | (simp (decide := true) only [q2_ne, q2_r1, uI_at, uI_nj, qRow_ne, qRow_at]; exact hPe)), (by first | exact hTr | (simp (decide := true) only [q2_ne, q2_r1, uI_at, uI_nj, qRow_ne, qRow_at]; exact hTr)), (RTx_of hTx (by simp (decide := true) only [q2_ne, q2_r1, uI_at, uI_nj, qRow_ne, qRow_at]) (by simp (decide := true) only [q2_ne, q2_r1, uI_at, uI_nj, qRow_ne, qRow_at]) (by simp (decide := true) only [q2_ne, q2_r1, uI_at, uI_nj, qRow_ne, qRow_at]) (by simp (decide := true) only [q2_ne, q2_r1, uI_at, uI_nj, qRow_ne, qRow_at]) (by simp (decide := true) only [q2_ne, q2_r1, uI_at, uI_nj, qRow_ne, qRow_at]) (fun k hk => by (try dsimp only); repeat first | rfl | rw [q2_ne (by omega)] | rw [qRow_ne (by omega)]) (fun k hk => by (try dsimp only); repeat first | rfl | rw [q2_ne (by omega)] | rw [qRow_ne (by omega)])), (by first | exact hMk | (simp (decide := true) only [q2_ne, q2_r1, uI_at, uI_nj, qRow_ne, qRow_at]; exact hMk)), (by first | exact hKA | (simp (decide := true) only [q2_ne, q2_r1, uI_at, uI_nj, qRow_ne, qRow_at]; exact hKA))⟩⟩

