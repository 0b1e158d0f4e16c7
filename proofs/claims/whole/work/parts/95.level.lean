/-! formulas: the reference's level -/
theorem fm_br {n : Nat} {t : Nat → Int32} {w : Nat} {s : sg} (hen : gEn s = false) (hbg : gBg s = true) (hw : wdT n t w = 124) : w < n ∧ nx n t w = w + 1 ∧ fmR n t w s = fmR n t (w + 1) (sRow (eRow s)) := by
  obtain ⟨h1, h2⟩ := wd_lt hw (by decide)
  have h3 : letN n t w = 0 := tkA_l0 h2 (by decide) (by decide)
  refine ⟨h1, by unfold nx; rw [if_pos h1, h3]; rfl, ?_⟩
  have h4 := fm_s (s := s) h1 (s' := sRow (eRow s)) (by rw [h2, stT_K (K' := 0) (by decide), stT_b hen, if_pos hbg])
  rw [h3] at h4
  exact h4
theorem l_X12_allF {d z : Nat} {N : Nat → Nat} {I : Nat → Nat → Int32} {L : Nat → Nat → Int64} {R : Nat → Nat → Option Nat} {Q : qP} {a dp f : Nat} {I1 : Nat → Nat → Int32} (h20 : I1 65 20 = nI f) (hf2 : f ≤ 200) (h : Q none (z, N, I1, L, R)) :  qJ m_X12_all (qWP (d + 1)) Q 80 [(3, .int 1), (2, .int (nI a)), (1, .int (nI dp)), (0, .ref 65)] [] 0 0 (z, N, I1, L, R) := by
  skip
  refine qJ_run (qWP_mono _) [80] 400 ?_
  refine br_t (show 0 ≤ (I1 65 20) from by rw [h20]; exact nI_pos' (by omega)) ?_
  refine ⟨fun _ => ?_, fun h => absurd h (by decide)⟩
  refine ⟨fun _ => ?_, fun h => absurd h (by decide)⟩
  change Q none (z, N, I1, L, R)
  exact h
theorem l_X12_allS {d z : Nat} {N : Nat → Nat} {I : Nat → Nat → Int32} {L : Nat → Nat → Int64} {R : Nat → Nat → Option Nat} {Q : qP} {a dp : Nat} {k e o : Int32} {I1 : Nat → Nat → Int32} (h21 : I1 65 21 = 1) (h : qJ m_X12_all (qWP (d + 1)) Q 80 [(3, .int 1), (2, .int (nI a)), (1, .int (nI dp)), (0, .ref 65)] [] 0 0 (z, N, I1, L, R)) :  qJ m_X12_all (qWP (d + 1)) Q 45 [(6, .int k), (5, .int e), (4, .int o), (3, .int 1), (2, .int (nI a)), (1, .int (nI dp)), (0, .ref 65)] [] 0 0 (z, N, I1, L, R) := by
  skip
  refine qJ_run (qWP_mono _) [45, 80] 400 ?_
  refine ⟨fun (c1 : e ≤ k) => ?_, fun (c1 : ¬ e ≤ k) => ?_⟩
  · refine qJ_nm (qWP_mono _) [(6, _), (5, _), (4, _)] [(3, .int 1), (2, .int (nI a)), (1, .int (nI dp)), (0, .ref 65)] rfl rfl rfl ?_
    exact h
  · refine ⟨fun _ => ?_, fun hx => absurd hx (show ¬ (I1 65 21) = 0 from by rw [h21]; decide)⟩
    refine qJ_nm (qWP_mono _) [(6, _), (5, _), (4, _)] [(3, .int 1), (2, .int (nI a)), (1, .int (nI dp)), (0, .ref 65)] rfl rfl rfl ?_
    exact h
theorem l_X12_allC {d z : Nat} {N : Nat → Nat} {I : Nat → Nat → Int32} {L : Nat → Nat → Int64} {R : Nat → Nat → Option Nat} {Q : qP} {a dp : Nat} {m1 m : List Nat} {W : Option (List Nat)} {I2 : Nat → Nat → Int32} (hb : a + m1.length + m.length + 1 < 4000) (hm : m.length ≤ 200) (h0 : W = none → ∀ I5, frJ I2 I5 a → I5 65 15 = nI a → I5 65 21 = 1 → qJ m_X12_all (qWP (d + 5)) Q 80 [(3, .int 1), (2, .int (nI a)), (1, .int (nI dp)), (0, .ref 65)] [] 0 0 (z, N, I5, L, R)) (h1 : ∀ C I5, W = some C → frJ I2 I5 a → I5 65 15 = nI (a + C.length) → I5 65 21 = 0 → segR I5 a C → C.length ≤ 200 → qJ m_X12_all (qWP (d + 5)) Q 80 [(3, .int 1), (2, .int (nI a)), (1, .int (nI dp)), (0, .ref 65)] [] 0 0 (z, N, I5, L, R)) : ∀ (q i : Nat) (C : List Nat) (I4 : Nat → Nat → Int32), i + q = m.length → frJ I2 I4 a → I4 65 15 = nI (a + C.length) → C.length ≤ 200 → C.length ≤ m1.length + i → segR I4 a C → (∀ i', i ≤ i' → i' < m.length → enR I4 (a + m1.length + i') (m.getD i' 0)) → I4 65 21 = 0 → addI apF 200 ((m.drop i).map some) C = W → qJ m_X12_all (qWP (d + 5)) Q 45 [(6, .int (nI (a + m1.length + i))), (5, .int (nI (a + m1.length + m.length))), (4, .int (nI (a + m1.length))), (3, .int 1), (2, .int (nI a)), (1, .int (nI dp)), (0, .ref 65)] [] 0 0 (z, N, I4, L, R) := by
  refine nat_ind fun q ih => ?_
  intro i C I4 hiq hf h15 hC hCi hsC hse h21 hW
  refine qJ_run (qWP_mono _) [45, 80] 400 ?_
  refine ⟨fun (c1 : (nI (a + m1.length + m.length)) ≤ (nI (a + m1.length + i))) => ?_, fun (c1 : ¬ (nI (a + m1.length + m.length)) ≤ (nI (a + m1.length + i))) => ?_⟩
  · have hi : i = m.length := by
      have c9 := c1
      rw [nI_leI (by omega) (by omega)] at c9
      omega
    refine qJ_nm (qWP_mono _) [(6, _), (5, _), (4, _)] [(3, .int 1), (2, .int (nI a)), (1, .int (nI dp)), (0, .ref 65)] rfl rfl rfl ?_
    change qJ m_X12_all (qWP _) Q 80 [(3, .int 1), (2, .int (nI a)), (1, .int (nI dp)), (0, .ref 65)] [] _ _ (z, N, I4, L, R)
    rw [hi, List.drop_length] at hW
    exact h1 C I4 hW.symm hf h15 h21 hsC hC
  · have hi : i < m.length := by
      refine Decidable.byContradiction fun h9 => c1 ?_
      exact nI_le (by omega) (by omega)
    refine ⟨fun hx => absurd (show (I4 65 21) = 0 from h21) hx, fun _ => ?_⟩
    refine ⟨⟨Nat.le_refl _, Nat.le_refl _⟩, ?_⟩
    have hKi := hse i (Nat.le_refl _) hi
    have hdr : (m.drop i).map some = some (m.getD i 0) :: (m.drop (i + 1)).map some := by rw [drop_c hi]; rfl
    rw [hdr, addI_c, addI1] at hW
    refine qWP_as (as' := [.ref 65, .int (nI (a + m1.length + i)), .int (nI (a + C.length))]) (show [Value.ref 65, .int (nI (a + m1.length + i)), .int (I4 65 15)] = _ by rw [h15]) ?_
    refine c_X12_copies (d := d + 3) (by omega) (by omega) hKi fun I5 g1 g2 => ?_
    have g65 : I5 65 = I4 65 := g1.1 65 (by decide) (by decide)
    refine ⟨⟨Nat.le_refl _, Nat.le_refl _⟩, ?_⟩
    refine c_X12_keeps (d := d + 2) (a := a) (m := C) (K := m.getD i 0) hC (by omega) (by rw [g65]; exact h15) (segR_s hsC (fun i' hi' => g1.2 _ (by omega))) g2 (fun ea I6 k1 k2 k3 => ?_) (fun C6 I6 ea k1 k2 k3 k4 => ?_)
    · change qJ m_X12_all (qWP _) Q 45 [(6, .int ((nI (a + m1.length + i)) + 1)), (5, .int (nI (a + m1.length + m.length))), (4, .int (nI (a + m1.length))), (3, .int 1), (2, .int (nI a)), (1, .int (nI dp)), (0, .ref 65)] [] _ _ (z, N, I6, L, R)
      rw [ea] at hW
      exact l_X12_allS (I := I2) (d := d + 4) k3 (h0 hW.symm I6 (frJ_t (frJ_t hf (cpF_J g1 (by omega)) (Nat.le_refl _)) (frK_J k1) (Nat.le_refl _)) k2 k3)
    · change qJ m_X12_all (qWP _) Q 45 [(6, .int ((nI (a + m1.length + i)) + 1)), (5, .int (nI (a + m1.length + m.length))), (4, .int (nI (a + m1.length))), (3, .int 1), (2, .int (nI a)), (1, .int (nI dp)), (0, .ref 65)] [] _ _ (z, N, I6, L, R)
      rw [ea] at hW
      obtain ⟨p, rfl⟩ : ∃ p, q = p + 1 := ⟨q - 1, by omega⟩
      have hC6 : C6.length ≤ C.length + 1 := by
        unfold addG at ea
        split at ea
        · obtain rfl := Option.some.inj ea; omega
        · split at ea
          · exact absurd ea (by simp)
          · obtain rfl := Option.some.inj ea; simp [apF]
      rw [nI_1, show a + m1.length + i + 1 = a + m1.length + (i + 1) by omega]
      exact ih p rfl (i + 1) C6 I6 (by omega) (frJ_t (frJ_t hf (cpF_J g1 (by omega)) (Nat.le_refl _)) (frK_J k1) (Nat.le_refl _)) k2 (addG_len pc_apF ea hC) (by omega) k4 (fun i' hi' hi2 => enR_s (hse i' (by omega) hi2) (sameE_t (g1.2 _ (by omega)) (frK_E k1))) (k3.trans (by rw [g65]; exact h21)) hW
theorem l_X12_all80 {d z : Nat} {N : Nat → Nat} {I : Nat → Nat → Int32} {L : Nat → Nat → Int64} {R : Nat → Nat → Option Nat} {Q : qP} {n a w dp j : Nat} {b : Nat → Int32} {s : sg} (hj : dp + j = 4) (ha : a + 802 + 600 * j < 4000) (hT200 : n ≤ 200) (hlv : gLv s = dp) (hen : gEn s = false) {w2 : Nat} {s2 : sg} {m2 : List Nat} {I2 : Nat → Nat → Int32} (hg : ∀ I' w' m s', frP I I' a → curT n b w' I' → w < w' → fmR n b w s = fmR n b w' s' → sgQ s s' → gBg s' = true → ¬ pcT n b w' → ¬ wdT n b w' = 124 → (gSp (eRow s') = false → (gAl (eRow s') dp).Perm m ∧ okS (gAl (eRow s') dp) ∧ srt (gAl (eRow s') dp)) → bnS I' a (gSp (eRow s')) m 200 → (gSp s = true → I' 65 15 = nI a) → Q none (z, N, I', L, R)) (hnx : ∀ (w1 : Nat) (s1 : sg) (m1 : List Nat) (I1 : Nat → Nat → Int32), w2 < w1 → frP I I1 a → curT n b w1 I1 → w ≤ w1 → fmR n b w s = fmR n b w1 s1 → sgQ s s1 → gBg s1 = false → gRw s1 dp = [0] → (gSp s1 = false → (gAl s1 dp).Perm m1 ∧ okS (gAl s1 dp) ∧ srt (gAl s1 dp)) → bnS I1 a (gSp s1) m1 200 → (gSp s = true → I1 65 15 = nI a) → qJ m_X12_all (qWP (d + 3 * j + 8)) Q 7 [(3, .int 1), (2, .int (nI a)), (1, .int (nI dp)), (0, .ref 65)] [] 0 0 (z, N, I1, L, R)) (hfr : frP I I2 a) (hcu : curT n b w2 I2) (hlt : w < w2) (hfm : fmR n b w s = fmR n b w2 s2) (hq : sgQ s s2) (hbg : gBg s2 = true) (hnp : ¬ pcT n b w2) (hpm : gSp (eRow s2) = false → (gAl (eRow s2) dp).Perm m2 ∧ okS (gAl (eRow s2) dp) ∧ srt (gAl (eRow s2) dp)) (hb : bnS I2 a (gSp (eRow s2)) m2 200) (h15e : gSp s = true → I2 65 15 = nI a) :  qJ m_X12_all (qWP (d + 3 * j + 8)) Q 80 [(3, .int 1), (2, .int (nI a)), (1, .int (nI dp)), (0, .ref 65)] [] 0 0 (z, N, I2, L, R) := by
  skip
  have h16 : I2 65 16 = wdT n b w2 := hcu.1.2.2.2.1
  refine qJ_run (qWP_mono _) [7, 80] 400 ?_
  refine br_f (show ¬ 0 ≤ (I2 65 20) from by rw [hcu.2.1]; decide) ?_
  refine ⟨fun (c2 : ¬ (I2 65 16) = 124) => ?_, fun (c2 : (I2 65 16) = 124) => ?_⟩
  · have h124 : ¬ wdT n b w2 = 124 := by rw [← h16]; exact c2
    refine ⟨fun _ => ?_, fun h => absurd h (by decide)⟩
    change qJ m_X12_all (qWP _) Q 7 [(3, .int 0), (2, .int (nI a)), (1, .int (nI dp)), (0, .ref 65)] [] _ _ (z, N, I2, L, R)
    refine qJ_run (qWP_mono _) [7, 80] 400 ?_
    refine ⟨fun _ => ?_, fun h => absurd h (by decide)⟩
    change Q none (z, N, I2, L, R)
    exact hg I2 w2 m2 s2 hfr hcu hlt hfm hq hbg hnp h124 hpm hb h15e
  · have h124 : wdT n b w2 = 124 := by rw [← h16]; exact c2
    refine ⟨fun h => absurd h (by decide), fun _ => ?_⟩
    refine ⟨⟨Nat.le_refl _, Nat.le_refl _⟩, ?_⟩
    obtain ⟨o1, o2, o3⟩ := fm_br (hq.2.1.trans hen) hbg h124
    refine c_X12_token (d := d + 3 * j + 5) (n := n) (p := w2 + 1) (b := b) (fun I3 w3 t1 t2 t3 t4 => ?_) hcu.2.2 (by rw [hcu.1.2.2.2.2.2, o2]) (by omega)
    change qJ m_X12_all (qWP _) Q 7 [(3, .int 1), (2, .int (nI a)), (1, .int (nI dp)), (0, .ref 65)] [] _ _ (z, N, I3, L, R)
    have eK := eRow_K s2
    have hl2 : gLv s2 = dp := hq.1.trans hlv
    have eL : gLv (eRow s2) = dp := eK.1.trans hl2
    have qK : sgQ s2 (sRow (eRow s2)) := ⟨eK.1, eK.2.2.1, fun j _ => by
      show gOp (eRow s2) j = gOp s2 j
      rw [eK.2.2.2.1], fun j hj => ⟨by
      show upD (gRw (eRow s2)) (gLv (eRow s2)) [0] j = gRw s2 j
      rw [upD_ne (by omega), eK.2.2.2.2.1], eK.2.2.2.2.2.1 j (by omega)⟩, fun e => by
      show gSp (eRow s2) = true
      rw [eK.2.2.2.2.2.2 e]; exact e⟩
    exact hnx w3 (sRow (eRow s2)) m2 I3 (by omega) (frP_t hfr (frP_19 t2) (Nat.le_refl _)) (cur_19 hcu.2.2 hcu.2.1 t1 t2) (by omega) (hfm.trans (o3.trans (t3 _))) (sgQ_t hq qK) rfl (by
      show upD (gRw (eRow s2)) (gLv (eRow s2)) [0] dp = [0]
      rw [eL, upD_at]) hpm (bnS_19 hb t2) (fun e => (t2.2 15 (by omega)).trans (h15e e))
theorem l_X12_all {d z : Nat} {N : Nat → Nat} {I : Nat → Nat → Int32} {L : Nat → Nat → Int64} {R : Nat → Nat → Option Nat} {Q : qP} {n a w dp j : Nat} {b : Nat → Int32} {s : sg} (hj : dp + j = 4) (ha : a + 802 + 600 * j < 4000) (hT200 : n ≤ 200) (hlv : gLv s = dp) (hen : gEn s = false) (hR : OKrow d z N L R n b j dp) (hf : ∀ I' f sp m, frP I I' a → I' 65 20 = nI f → f ≤ n → fmR n b w s = .inl f → bnS I' a sp m 200 → (gSp s = true → sp = true ∧ I' 65 15 = nI a) → Q none (z, N, I', L, R)) (hg : ∀ I' w' m s', frP I I' a → curT n b w' I' → w < w' → fmR n b w s = fmR n b w' s' → sgQ s s' → gBg s' = true → ¬ pcT n b w' → ¬ wdT n b w' = 124 → (gSp (eRow s') = false → (gAl (eRow s') dp).Perm m ∧ okS (gAl (eRow s') dp) ∧ srt (gAl (eRow s') dp)) → bnS I' a (gSp (eRow s')) m 200 → (gSp s = true → I' 65 15 = nI a) → Q none (z, N, I', L, R)) : ∀ (q w1 : Nat) (s1 : sg) (m1 : List Nat) (I1 : Nat → Nat → Int32), n ≤ w1 + q → frP I I1 a → curT n b w1 I1 → w ≤ w1 → fmR n b w s = fmR n b w1 s1 → sgQ s s1 → gBg s1 = false → gRw s1 dp = [0] → (gSp s1 = false → (gAl s1 dp).Perm m1 ∧ okS (gAl s1 dp) ∧ srt (gAl s1 dp)) → bnS I1 a (gSp s1) m1 200 → (gSp s = true → I1 65 15 = nI a) → qJ m_X12_all (qWP (d + 3 * j + 8)) Q 7 [(3, .int 1), (2, .int (nI a)), (1, .int (nI dp)), (0, .ref 65)] [] 0 0 (z, N, I1, L, R) := by
  refine nat_ind fun q ih => ?_
  intro w1 s1 m1 I1 hnq hfr hcu hle hfm hq hbg hrw hpm hb h15e
  refine qJ_run (qWP_mono _) [7, 45] 400 ?_
  refine ⟨fun h => absurd h (by decide), fun _ => ?_⟩
  refine br_f (show ¬ 0 ≤ (I1 65 20) from by rw [hcu.2.1]; decide) ?_
  refine ⟨⟨Nat.le_refl _, Nat.le_refl _⟩, ?_⟩
  obtain ⟨c, hc15, hc2, hc3⟩ : ∃ c, I1 65 15 = nI (a + c) ∧ c ≤ 200 ∧ (gSp s1 = false → c = m1.length) := by
    cases e : gSp s1 with
    | false =>
      obtain ⟨_, k2, k3⟩ := hb.2.1 e
      exact ⟨m1.length, k2, k3, fun _ => rfl⟩
    | true =>
      obtain ⟨c, k1, k2⟩ := hb.2.2 e
      exact ⟨c, k2, k1, fun h => absurd h (by decide)⟩
  have hlv1 : gLv s1 = dp := hq.1.trans hlv
  refine hR _ I1 (a + c) w1 s1 (by omega) hcu hlv1 (hq.2.1.trans hen) hbg hrw (bnS_i hb.1 hc15) (fun I2 f sp m k1 k2 k3 k4 k5 k6 => ?_) (fun I2 w2 m s2 b1 hc9 b3 b4 b5 b6 b7 b8 b9 b10 b11 => ?_)
  · change qJ m_X12_all (qWP _) Q 45 [(6, .int (I1 65 15)), (5, .int (I2 65 15)), (4, .int (I1 65 15)), (3, .int 1), (2, .int (nI a)), (1, .int (nI dp)), (0, .ref 65)] [] _ _ (z, N, q2 I2 65 15 (I1 65 15), L, R)
    have fj : frJ I2 (q2 I2 65 15 (nI (a + c))) a := frK_J (frK_s frK_r (by decide))
    have e21 : (q2 I2 65 15 (nI (a + c))) 65 21 = I2 65 21 := q2_nj (by decide)
    have e20 : (q2 I2 65 15 (nI (a + c))) 65 20 = I2 65 20 := q2_nj (by decide)
    rw [hc15]
    cases hsp : sp with
    | true =>
      rw [hsp] at k5
      refine l_X12_allS (I := I) (d := d + 3 * j + 7) (e21.trans k5.1) (l_X12_allF (I := I) (d := d + 3 * j + 7) (e20.trans k2) (by omega) ?_)
      refine hf _ f true [] (frP_t hfr (frP_t (frP_m k1 (by omega)) (frP_J fj) (Nat.le_refl _)) (Nat.le_refl _)) (e20.trans k2) k3 (hfm.trans k4) ⟨e21.trans k5.1, fun e => absurd e (by decide), fun _ => ⟨c, hc2, q2_at⟩⟩ (fun e => ⟨rfl, q2_at.trans (hc15.symm.trans (h15e e))⟩)
    | false =>
      have hs1 : gSp s1 = false := by
        cases e : gSp s1 with
        | false => rfl
        | true => have h8 := (k6 e).1; rw [hsp] at h8; exact absurd h8 (by decide)
      have nsp : gSp s = true → False := fun e => by rw [hq.2.2.2.2 e] at hs1; exact absurd hs1 (by decide)
      rw [hsp] at k5
      obtain ⟨g4, g5, g6⟩ := k5.2.1 rfl
      obtain ⟨g1, g2, g3⟩ := hb.2.1 hs1
      obtain rfl := hc3 hs1
      rw [g5]
      refine l_X12_allC (I := I) (d := d + 3 * j + 3) (m1 := m1) (m := m) (I2 := I2) (by omega) g6 (fun eW I5 j1 j2 j3 => l_X12_allF (I := I) (d := d + 3 * j + 7) ((j1.2.1 20 (by decide) (by decide)).trans k2) (by omega) ?_) (fun C I5 eW j1 j2 j3 j4 j5 => l_X12_allF (I := I) (d := d + 3 * j + 7) ((j1.2.1 20 (by decide) (by decide)).trans k2) (by omega) ?_) m.length 0 m1 _ (Nat.zero_add _) fj q2_at g3 (by omega) (segR_s g1 (fun i hi => sameE_t (k1.2.2 _ (by omega)) (frK_E (frK_s frK_r (by decide))))) (fun i _ hi => enR_s (g4 i hi) (frK_E (frK_s frK_r (by decide)))) (e21.trans k5.1) rfl
      · exact hf I5 f true [] (frP_t hfr (frP_t (frP_m k1 (by omega)) (frP_J j1) (Nat.le_refl _)) (Nat.le_refl _)) ((j1.2.1 20 (by decide) (by decide)).trans k2) k3 (hfm.trans k4) (bnS_i j3 j2) (fun e => (nsp e).elim)
      · exact hf I5 f false C (frP_t hfr (frP_t (frP_m k1 (by omega)) (frP_J j1) (Nat.le_refl _)) (Nat.le_refl _)) ((j1.2.1 20 (by decide) (by decide)).trans k2) k3 (hfm.trans k4) ⟨j3, fun _ => ⟨j4, j2, j5⟩, fun e => absurd e (by decide)⟩ (fun e => (nsp e).elim)
  · change qJ m_X12_all (qWP _) Q 45 [(6, .int (I1 65 15)), (5, .int (I2 65 15)), (4, .int (I1 65 15)), (3, .int 1), (2, .int (nI a)), (1, .int (nI dp)), (0, .ref 65)] [] _ _ (z, N, q2 I2 65 15 (I1 65 15), L, R)
    have fj : frJ I2 (q2 I2 65 15 (nI (a + c))) a := frK_J (frK_s frK_r (by decide))
    have e21 : (q2 I2 65 15 (nI (a + c))) 65 21 = I2 65 21 := q2_nj (by decide)
    have e20 : (q2 I2 65 15 (nI (a + c))) 65 20 = I2 65 20 := q2_nj (by decide)
    rw [hc15]
    have hl2 : gLv s2 = dp := b5.1.trans hlv1
    have hcuJ : ∀ I5, frJ I2 I5 a → curT n b w2 I5 := fun I5 j1 => ⟨⟨hc9.1.1, hc9.1.2.1, (j1.2.1 17 (by decide) (by decide)).trans hc9.1.2.2.1, (j1.2.1 16 (by decide) (by decide)).trans hc9.1.2.2.2.1, fun h9 => (j1.2.1 18 (by decide) (by decide)).trans (hc9.1.2.2.2.2.1 h9), (j1.2.1 19 (by decide) (by decide)).trans hc9.1.2.2.2.2.2⟩, (j1.2.1 20 (by decide) (by decide)).trans hc9.2.1, tpR_P hc9.2.2 (frP_J j1)⟩
    have hfrJ : ∀ I5, frJ I2 I5 a → frP I I5 a := fun I5 j1 => frP_t hfr (frP_t (frP_m b1 (by omega)) (frP_J j1) (Nat.le_refl _)) (Nat.le_refl _)
    have hnx : ∀ (w1 : Nat) (s1 : sg) (m1 : List Nat) (I1 : Nat → Nat → Int32), w2 < w1 → frP I I1 a → curT n b w1 I1 → w ≤ w1 → fmR n b w s = fmR n b w1 s1 → sgQ s s1 → gBg s1 = false → gRw s1 dp = [0] → (gSp s1 = false → (gAl s1 dp).Perm m1 ∧ okS (gAl s1 dp) ∧ srt (gAl s1 dp)) → bnS I1 a (gSp s1) m1 200 → (gSp s = true → I1 65 15 = nI a) → qJ m_X12_all (qWP (d + 3 * j + 8)) Q 7 [(3, .int 1), (2, .int (nI a)), (1, .int (nI dp)), (0, .ref 65)] [] 0 0 (z, N, I1, L, R) := fun w3 s3 m3 I3 hlt3 => by
      obtain ⟨k, rfl⟩ : ∃ k, q = k + 1 := ⟨q - 1, by have := hc9.1.1; omega⟩
      exact ih k rfl w3 s3 m3 I3 (by omega)
    have h80 : ∀ m2 I5, frJ I2 I5 a → (gSp (eRow s2) = false → (gAl (eRow s2) dp).Perm m2 ∧ okS (gAl (eRow s2) dp) ∧ srt (gAl (eRow s2) dp)) → bnS I5 a (gSp (eRow s2)) m2 200 → (gSp s = true → I5 65 15 = nI a) → qJ m_X12_all (qWP (d + 3 * j + 8)) Q 80 [(3, .int 1), (2, .int (nI a)), (1, .int (nI dp)), (0, .ref 65)] [] 0 0 (z, N, I5, L, R) := fun m2 I5 j1 u1 u2 u3 => l_X12_all80 (d := d) hj ha hT200 hlv hen hg hnx (hfrJ I5 j1) (hcuJ I5 j1) (by omega) (hfm.trans b4) (sgQ_t hq b5) b7 b8 u1 u2 u3
    cases hsp : gSp s2 with
    | true =>
      have e9 : eRow s2 = s2 := if_pos hsp
      refine l_X12_allS (I := I) (d := d + 3 * j + 7) (e21.trans (b10.1.trans (by rw [hsp]; rfl))) (h80 [] _ fj (by rw [e9, hsp]; exact fun e => absurd e (by decide)) ?_ (fun e => q2_at.trans (hc15.symm.trans (h15e e))))
      rw [e9, hsp]
      exact ⟨e21.trans (b10.1.trans (by rw [hsp])), fun e => absurd e (by decide), fun _ => ⟨c, hc2, q2_at⟩⟩
    | false =>
      have hs1 : gSp s1 = false := by
        cases e : gSp s1 with
        | false => rfl
        | true => have h8 := b5.2.2.2.2 e; rw [hsp] at h8; exact absurd h8 (by decide)
      have nsp : gSp s = true → False := fun e => by rw [hq.2.2.2.2 e] at hs1; exact absurd hs1 (by decide)
      obtain ⟨g4, g5, g6⟩ := b10.2.1 hsp
      obtain ⟨g1, g2, g3⟩ := hb.2.1 hs1
      obtain rfl := hc3 hs1
      have hp1 := hpm hs1
      have hp2 := b9 hsp
      have rel := add_two (is := (gRw s2 dp).map some) (js := m.map some) (l := gAl s2 dp) (m := m1) (fun x => by simp only [List.mem_map, hp2.1.mem_iff]) (by rw [b6]; exact hp1.1) (by rw [b6]; exact hp1.2.1) (by rw [b6]; exact hp1.2.2) (some_m hp2.2.1.2)
      rw [g5]
      refine l_X12_allC (I := I) (d := d + 3 * j + 3) (m1 := m1) (m := m) (I2 := I2) (by omega) g6 (fun eW I5 j1 j2 j3 => ?_) (fun C I5 eW j1 j2 j3 j4 j5 => ?_) m.length 0 m1 _ (Nat.zero_add _) fj q2_at g3 (by omega) (segR_s g1 (fun i hi => sameE_t (b1.2.2 _ (by omega)) (frK_E (frK_s frK_r (by decide))))) (fun i _ hi => enR_s (g4 i hi) (frK_E (frK_s frK_r (by decide)))) (e21.trans (b10.1.trans (by rw [hsp]; rfl))) rfl
      · rw [List.drop_zero] at eW
        rcases rel with ⟨x, y, r1, r2, _⟩ | ⟨r1, r2⟩
        · rw [eW] at r2; exact absurd r2 (by simp)
        have e9 : eRow s2 = wSp s2 := by unfold eRow; rw [if_neg (by rw [hsp]; decide), hl2, r1]; rfl
        refine h80 [] I5 j1 ?_ ?_ (fun e => (nsp e).elim)
        · rw [e9]; exact fun e => absurd e (by simp [wSp])
        · rw [e9]; exact bnS_i j3 j2
      · rw [List.drop_zero] at eW
        rcases rel with ⟨x, y, r1, r2, r3, r4, r5⟩ | ⟨r1, r2⟩
        case inr => rw [eW] at r2; exact absurd r2 (by simp)
        rw [eW] at r2
        obtain rfl := Option.some.inj r2
        have e9 : eRow s2 = wAl s2 x := by unfold eRow; rw [if_neg (by rw [hsp]; decide), hl2, r1]; rfl
        have e8 : gAl (eRow s2) dp = x := by
          rw [e9]
          show upD (gAl s2) (gLv s2) x dp = x
          rw [hl2, upD_at]
        have e7 : gSp (eRow s2) = false := by rw [e9]; exact hsp
        refine h80 C I5 j1 (fun _ => by rw [e8]; exact ⟨r3, r4, r5⟩) ?_ (fun e => (nsp e).elim)
        rw [e7]
        exact ⟨j3, fun _ => ⟨j4, j2, j5⟩, fun e => absurd e (by decide)⟩
theorem c_X12_all {d z : Nat} {N : Nat → Nat} {I : Nat → Nat → Int32} {L : Nat → Nat → Int64} {R : Nat → Nat → Option Nat} {Q : qP} {n a w dp j : Nat} {b : Nat → Int32} {s : sg} (hj : dp + j = 4) (ha : a + 802 + 600 * j < 4000) (hT200 : n ≤ 200) (hlv : gLv s = dp) (hen : gEn s = false) (hR : OKrow d z N L R n b j dp) (hcu : curT n b w I) (hbg : gBg s = false) (hrw : gRw s dp = [0]) (hal : gAl s dp = []) (hbk : bnS I a (gSp s) [] 0) (hf : ∀ I' f sp m, frP I I' a → I' 65 20 = nI f → f ≤ n → fmR n b w s = .inl f → bnS I' a sp m 200 → (gSp s = true → sp = true ∧ I' 65 15 = nI a) → Q none (z, N, I', L, R)) (hg : ∀ I' w' m s', frP I I' a → curT n b w' I' → w < w' → fmR n b w s = fmR n b w' s' → sgQ s s' → gBg s' = true → ¬ pcT n b w' → ¬ wdT n b w' = 124 → (gSp (eRow s') = false → (gAl (eRow s') dp).Perm m ∧ okS (gAl (eRow s') dp) ∧ srt (gAl (eRow s') dp)) → bnS I' a (gSp (eRow s')) m 200 → (gSp s = true → I' 65 15 = nI a) → Q none (z, N, I', L, R)) : qWP (d + 3 * j + 9) 188 [.ref 65, .int (nI dp)] (z, N, I, L, R) Q := by
  have h15 : I 65 15 = nI a := bnS_0 hbk
  refine qWP_of m_X12_all rfl rfl [(0, .ref 65), (1, .int (nI dp))] rfl ?_
  refine qJ_run (qWP_mono _) [7] 400 ?_
  refine qJ_nm (qWP_mono _) [] [(3, .int 1), (2, .int (I 65 15)), (1, .int (nI dp)), (0, .ref 65)] rfl rfl rfl ?_
  change qJ m_X12_all (qWP _) Q 7 [(3, .int 1), (2, .int (I 65 15)), (1, .int (nI dp)), (0, .ref 65)] [] _ _ (z, N, I, L, R)
  rw [h15]
  exact l_X12_all (d := d) hj ha hT200 hlv hen hR hf hg n w s [] I (by omega) frP_r hcu (Nat.le_refl _) rfl sgQ_r hbg hrw (fun _ => by rw [hal]; exact ⟨.nil, ok_nil, srt_0⟩) (bnS_m hbk (by decide)) (fun _ => h15)
theorem ok_all {d z : Nat} {N : Nat → Nat} {L : Nat → Nat → Int64} {R : Nat → Nat → Option Nat} {n : Nat} {b : Nat → Int32} : ∀ j dp, dp + j = 4 → OKall d z N L R n b j dp := by
  intro j
  induction j with
  | zero =>
    intro dp hj Q I a w s ha hcu hlv hen hbg hrw hal hbk hf hg
    exact c_X12_all (d := d) (j := 0) hj ha hcu.2.2.2.1 hlv hen (ok_row (j := 0) hj (ok_piece (j := 0) hj fun j' e => absurd e (by omega))) hcu hbg hrw hal hbk hf hg
  | succ j ih =>
    intro dp hj Q I a w s ha hcu hlv hen hbg hrw hal hbk hf hg
    exact c_X12_all (d := d) (j := j + 1) hj ha hcu.2.2.2.1 hlv hen (ok_row (j := j + 1) hj (ok_piece (j := j + 1) hj fun j' e => by
      obtain rfl : j = j' := by omega
      exact ih (dp + 1) (by omega))) hcu hbg hrw hal hbk hf hg
