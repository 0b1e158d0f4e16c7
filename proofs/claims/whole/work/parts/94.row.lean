/-! formulas: the reference's row -/
def OKrow (d z : Nat) (N : Nat → Nat) (L : Nat → Nat → Int64) (R : Nat → Nat → Option Nat) (n : Nat) (b : Nat → Int32) (j dp : Nat) : Prop := ∀ (Q : qP) (I : Nat → Nat → Int32) (r w : Nat) (s : sg), r + 602 + 600 * j < 4000 → curT n b w I → gLv s = dp → gEn s = false → gBg s = false → gRw s dp = [0] → bnS I r (gSp s) [] 0 →
  (∀ I' f sp m, frP I I' r → I' 65 20 = nI f → f ≤ n → fmR n b w s = .inl f → bnS I' r sp m 400 → (gSp s = true → sp = true ∧ I' 65 15 = nI r) → Q none (z, N, I', L, R)) →
  (∀ I' w' m s', frP I I' r → curT n b w' I' → w < w' → fmR n b w s = fmR n b w' s' → sgQ s s' → gAl s' dp = gAl s dp → gBg s' = true → ¬ pcT n b w' → (gSp s' = false → (gRw s' dp).Perm m ∧ okS (gRw s' dp) ∧ srt (gRw s' dp)) → bnS I' r (gSp s') m 400 → (gSp s = true → I' 65 15 = nI r) → Q none (z, N, I', L, R)) →
  qWP (d + 3 * j + 8) 189 [.ref 65, .int (nI dp)] (z, N, I, L, R) Q
theorem sgQ_ap (P : List Nat) (s : sg) : sgQ s (aPc P s) ∧ gAl (aPc P s) = gAl s ∧ gBg (aPc P s) = true := by
  obtain ⟨a1, a2, a3, a4, a5, a6, a7⟩ := aPc_K P s
  exact ⟨⟨a1, a3, fun j _ => by rw [a4], fun j hj => ⟨a6 j (by omega), by rw [a5]⟩, a7⟩, a5, a2⟩
theorem aPc_s {P : List Nat} {s : sg} (h : gSp s = true) : aPc P s = wBg s := by unfold aPc; rw [if_pos h]
theorem aPc_0 {P : List Nat} {s : sg} {dp : Nat} (h : gSp s = false) (hl : gLv s = dp) (e : addI ins 200 (prI (gRw s dp) P) [] = none) : aPc P s = wBg (wSp s) := by
  unfold aPc
  rw [if_neg (by rw [h]; decide), hl, e]
  rfl
theorem aPc_1 {P x : List Nat} {s : sg} {dp : Nat} (h : gSp s = false) (hl : gLv s = dp) (e : addI ins 200 (prI (gRw s dp) P) [] = some x) : aPc P s = wBg (wRw s x) ∧ gRw (aPc P s) dp = x ∧ gSp (aPc P s) = false := by
  have h1 : aPc P s = wBg (wRw s x) := by
    unfold aPc
    rw [if_neg (by rw [h]; decide), hl, e]
    rfl
  refine ⟨h1, ?_, ?_⟩
  · rw [h1]
    show upD (gRw s) (gLv s) x dp = x
    rw [hl, upD_at]
  · rw [h1]; exact h
theorem l_X12_rowF {d z : Nat} {N : Nat → Nat} {I : Nat → Nat → Int32} {L : Nat → Nat → Int64} {R : Nat → Nat → Option Nat} {Q : qP} {r dp f : Nat} {I1 : Nat → Nat → Int32} (h20 : I1 65 20 = nI f) (hf2 : f ≤ 200) (h : Q none (z, N, I1, L, R)) :  qJ m_X12_row (qWP d) Q 10 [(2, .int (nI r)), (1, .int (nI dp)), (0, .ref 65)] [] 0 0 (z, N, I1, L, R) := by
  skip
  refine qJ_run (qWP_mono _) [10] 400 ?_
  refine br_t (show 0 ≤ (I1 65 20) from by rw [h20]; exact nI_pos' (by omega)) ?_
  change Q none (z, N, I1, L, R)
  exact h
theorem l_X12_row {d z : Nat} {N : Nat → Nat} {I : Nat → Nat → Int32} {L : Nat → Nat → Int64} {R : Nat → Nat → Option Nat} {Q : qP} {n r w dp j : Nat} {b : Nat → Int32} {s : sg} (hj : dp + j = 4) (hP : OKpiece d z N L R n b j dp) (hr : r + 602 + 600 * j < 4000) (hT200 : n ≤ 200) (hlv : gLv s = dp) (hen : gEn s = false) (hf : ∀ I' f sp m, frP I I' r → I' 65 20 = nI f → f ≤ n → fmR n b w s = .inl f → bnS I' r sp m 400 → (gSp s = true → sp = true ∧ I' 65 15 = nI r) → Q none (z, N, I', L, R)) (hg : ∀ I' w' m s', frP I I' r → curT n b w' I' → w < w' → fmR n b w s = fmR n b w' s' → sgQ s s' → gAl s' dp = gAl s dp → gBg s' = true → ¬ pcT n b w' → (gSp s' = false → (gRw s' dp).Perm m ∧ okS (gRw s' dp) ∧ srt (gRw s' dp)) → bnS I' r (gSp s') m 400 → (gSp s = true → I' 65 15 = nI r) → Q none (z, N, I', L, R)) : ∀ (q w1 : Nat) (s1 : sg) (m1 : List Nat) (I1 : Nat → Nat → Int32), n ≤ w1 + q → frP I I1 r → curT n b w1 I1 → w < w1 → fmR n b w s = fmR n b w1 s1 → sgQ s s1 → gAl s1 dp = gAl s dp → gBg s1 = true → (gSp s1 = false → (gRw s1 dp).Perm m1 ∧ okS (gRw s1 dp) ∧ srt (gRw s1 dp)) → bnS I1 r (gSp s1) m1 400 → (gSp s = true → I1 65 15 = nI r) → qJ m_X12_row (qWP (d + 3 * j + 7)) Q 10 [(2, .int (nI r)), (1, .int (nI dp)), (0, .ref 65)] [] 0 0 (z, N, I1, L, R) := by
  refine nat_ind fun q ih => ?_
  intro w1 s1 m1 I1 hnq hfr hcu hlt hfm hq hal hbg hpm hb h15e
  have h16 : I1 65 16 = wdT n b w1 := hcu.1.2.2.2.1
  have hlv1 : gLv s1 = dp := hq.1.trans hlv
  have hen1 : gEn s1 = false := hq.2.1.trans hen
  refine qJ_run (qWP_mono _) [10] 400 ?_
  refine br_f (show ¬ 0 ≤ (I1 65 20) from by rw [hcu.2.1]; decide) ?_
  refine ⟨fun (c2 : (I1 65 16) = 97) => ?_, fun (c2 : ¬ (I1 65 16) = 97) => ?_⟩
  · have hpc : pcT n b w1 := Or.inl (by rw [← h16]; exact c2)
    refine ⟨⟨Nat.le_refl _, Nat.le_refl _⟩, ?_⟩
    obtain ⟨c, hc15, hc4, hc2⟩ : ∃ c, I1 65 15 = nI (r + c) ∧ c ≤ 400 ∧ (gSp s1 = false → c = m1.length ∧ c ≤ 200) := by
      cases e : gSp s1 with
      | false =>
        obtain ⟨_, k2, k3⟩ := hb.2.1 e
        exact ⟨m1.length, k2, by omega, fun _ => ⟨rfl, k3⟩⟩
      | true =>
        obtain ⟨c, k1, k2⟩ := hb.2.2 e
        exact ⟨c, k2, k1, fun h => absurd h (by decide)⟩
    refine qWP_e (show d + 3 * j + 7 = d + 3 * j + 7 from rfl) ?_
    by_cases hsz : r + c + 202 + 600 * j < 4000
    case neg => exact absurd (by omega) hsz
    refine hP _ I1 (r + c) w1 s1 hsz hcu hlv1 hen1 (Or.inr hpc) (bnS_i hb.1 hc15) (fun I2 f sp m k1 k2 k3 k4 k5 k6 => ?_) (fun I2 w2 P P' s2 b1 hc9 b3 b4 b5 b6 b7 b8 b9 b10 => ?_)
    · have h21 : I2 65 21 = bI sp := k5.1
      refine ⟨fun (c3 : ¬ (I2 65 21) = 0) => ?_, fun (c3 : (I2 65 21) = 0) => ?_⟩
      · have hsp : sp = true := by
          have c9 := c3
          rw [h21] at c9
          cases e : sp with
          | true => rfl
          | false => rw [e] at c9; exact absurd rfl c9
        refine qJ_nm (qWP_mono _) [(3, _)] [(2, .int (nI r)), (1, .int (nI dp)), (0, .ref 65)] rfl rfl rfl ?_
        change qJ m_X12_row (qWP _) Q 10 [(2, .int (nI r)), (1, .int (nI dp)), (0, .ref 65)] [] _ _ (z, N, I2, L, R)
        refine l_X12_rowF (I := I) (d := d + 3 * j + 7) k2 (by omega) (hf I2 f true [] (frP_t hfr (frP_m k1 (by omega)) (Nat.le_refl _)) k2 k3 (hfm.trans k4) ?_ ?_)
        · obtain ⟨c', e1, e2⟩ := k5.2.2 hsp
          refine ⟨by rw [h21, hsp], fun e => absurd e (by decide), fun _ => ?_⟩
          cases e : gSp s1 with
          | false => exact ⟨c + c', by have := (hc2 e).2; omega, by rw [e2, Nat.add_assoc]⟩
          | true => exact ⟨c, hc4, (k6 e).2⟩
        · exact fun e => ⟨rfl, by
            have e1 := hq.2.2.2.2 e
            rw [(k6 e1).2, ← hc15]; exact h15e e⟩
      · have hsp : sp = false := by
          have c9 := c3
          rw [h21] at c9
          exact bI_1.mp c9
        refine ⟨⟨Nat.le_refl _, Nat.le_refl _⟩, ?_⟩
        have hs1 : gSp s1 = false := by
          cases e : gSp s1 with
          | false => rfl
          | true => have h8 := (k6 e).1; rw [hsp] at h8; exact absurd h8 (by decide)
        obtain ⟨ec, ec2⟩ := hc2 hs1
        obtain ⟨g1, g2, g3⟩ := hb.2.1 hs1
        obtain ⟨g4, g5, g6⟩ := k5.2.1 hsp
        subst ec
        refine qWP_as (as' := [.ref 65, .int (nI r), .int (nI (r + m1.length))]) (show [Value.ref 65, .int (nI r), .int (I1 65 15)] = _ by rw [hc15]) ?_
        refine c_X12_joins (d := d + 3 * j) (A := m1) (B := m) (by omega) (segR_s g1 (fun i hi => k1.2.2 _ (by omega))) g4 g5 (by rw [h21, hsp]; rfl) (fun ea I3 j1 j2 j3 => ?_) (fun C I3 ea j1 j2 j3 j4 => ?_)
        · refine qJ_nm (qWP_mono _) [(3, _)] [(2, .int (nI r)), (1, .int (nI dp)), (0, .ref 65)] rfl rfl rfl ?_
          change qJ m_X12_row (qWP _) Q 10 [(2, .int (nI r)), (1, .int (nI dp)), (0, .ref 65)] [] _ _ (z, N, I3, L, R)
          refine l_X12_rowF (I := I) (d := d + 3 * j + 7) ((j1.2.1 20 (by decide) (by decide)).trans k2) (by omega) (hf I3 f true [] (frP_t hfr (frP_t (frP_m k1 (by omega)) (frP_J j1) (Nat.le_refl _)) (Nat.le_refl _)) ((j1.2.1 20 (by decide) (by decide)).trans k2) k3 (hfm.trans k4) (bnS_i j3 j2) ?_)
          exact fun e => by rw [hq.2.2.2.2 e] at hs1; exact absurd hs1 (by decide)
        · refine qJ_nm (qWP_mono _) [(3, _)] [(2, .int (nI r)), (1, .int (nI dp)), (0, .ref 65)] rfl rfl rfl ?_
          change qJ m_X12_row (qWP _) Q 10 [(2, .int (nI r)), (1, .int (nI dp)), (0, .ref 65)] [] _ _ (z, N, I3, L, R)
          refine l_X12_rowF (I := I) (d := d + 3 * j + 7) ((j1.2.1 20 (by decide) (by decide)).trans k2) (by omega) (hf I3 f false C (frP_t hfr (frP_t (frP_m k1 (by omega)) (frP_J j1) (Nat.le_refl _)) (Nat.le_refl _)) ((j1.2.1 20 (by decide) (by decide)).trans k2) k3 (hfm.trans k4) ⟨j3, fun _ => ⟨j4, j2, ((addI_iff pc_apF _ _ (by decide)).mp ea).2.1 ▸ ((addI_iff pc_apF _ _ (by decide)).mp ea).2.2⟩, fun e => absurd e (by decide)⟩ ?_)
          exact fun e => by rw [hq.2.2.2.2 e] at hs1; exact absurd hs1 (by decide)
    · have h21 : I2 65 21 = bI (gSp s2) := b9.1
      refine ⟨fun (c4 : ¬ (I2 65 21) = 0) => ?_, fun (c4 : (I2 65 21) = 0) => ?_⟩
      · have hsp : gSp s2 = true := by
          have c9 := c4
          rw [h21] at c9
          cases e : gSp s2 with
          | true => rfl
          | false => rw [e] at c9; exact absurd rfl c9
        refine qJ_nm (qWP_mono _) [(3, _)] [(2, .int (nI r)), (1, .int (nI dp)), (0, .ref 65)] rfl rfl rfl ?_
        change qJ m_X12_row (qWP _) Q 10 [(2, .int (nI r)), (1, .int (nI dp)), (0, .ref 65)] [] _ _ (z, N, I2, L, R)
        obtain ⟨k, rfl⟩ : ∃ k, q = k + 1 := ⟨q - 1, by have := hc9.1.1; omega⟩
        have eS := sgQ_ap P s2
        have hlv2 : gLv s2 = dp := b5.1.trans hlv1
        have e9 := aPc_s (P := P) hsp
        refine ih k rfl w2 (aPc P s2) [] I2 (by omega) ?_ ?_ (by omega) (hfm.trans b4) (sgQ_t hq (sgQ_t b5 eS.1)) (by rw [eS.2.1, b7]; exact hal) eS.2.2 ?_ ?_ ?_
        · exact frP_t hfr (frP_m b1 (by omega)) (Nat.le_refl _)
        · exact hc9
        · rw [e9]; exact fun e => absurd (e.symm.trans hsp) (by decide)
        · rw [e9]
          obtain ⟨c', e1, e2⟩ := b9.2.2 hsp
          refine ⟨h21, fun e => absurd (e.symm.trans hsp) (by decide), fun _ => ?_⟩
          cases e : gSp s1 with
          | false => exact ⟨c + c', by have := (hc2 e).2; omega, by rw [e2, Nat.add_assoc]⟩
          | true => exact ⟨c, hc4, b10 e⟩
        · exact fun e => by
            have e1 := hq.2.2.2.2 e
            rw [b10 e1, ← hc15]; exact h15e e
      · have hsp : gSp s2 = false := by
          have c9 := c4
          rw [h21] at c9
          exact bI_1.mp c9
        refine ⟨⟨Nat.le_refl _, Nat.le_refl _⟩, ?_⟩
        have hs1 : gSp s1 = false := by
          cases e : gSp s1 with
          | false => rfl
          | true => have h8 := b5.2.2.2.2 e; rw [hsp] at h8; exact absurd h8 (by decide)
        obtain ⟨ec, ec2⟩ := hc2 hs1
        obtain ⟨g1, g2, g3⟩ := hb.2.1 hs1
        obtain ⟨g4, g5, g6⟩ := b9.2.1 hsp
        subst ec
        refine qWP_as (as' := [.ref 65, .int (nI r), .int (nI (r + m1.length))]) (show [Value.ref 65, .int (nI r), .int (I1 65 15)] = _ by rw [hc15]) ?_
        refine c_X12_joins (d := d + 3 * j) (A := m1) (B := P') (by omega) (segR_s g1 (fun i hi => b1.2.2 _ (by omega))) g4 g5 (by rw [h21, hsp]; rfl) (fun ea I3 j1 j2 j3 => ?_) (fun C I3 ea j1 j2 j3 j4 => ?_)
        · refine qJ_nm (qWP_mono _) [(3, _)] [(2, .int (nI r)), (1, .int (nI dp)), (0, .ref 65)] rfl rfl rfl ?_
          change qJ m_X12_row (qWP _) Q 10 [(2, .int (nI r)), (1, .int (nI dp)), (0, .ref 65)] [] _ _ (z, N, I3, L, R)
          obtain ⟨k, rfl⟩ : ∃ k, q = k + 1 := ⟨q - 1, by have := hc9.1.1; omega⟩
          have eS := sgQ_ap P s2
          have hlv2 : gLv s2 = dp := b5.1.trans hlv1
          have hcu3 : curT n b w2 I3 := ⟨⟨hc9.1.1, hc9.1.2.1, (j1.2.1 17 (by decide) (by decide)).trans hc9.1.2.2.1, (j1.2.1 16 (by decide) (by decide)).trans hc9.1.2.2.2.1, fun h9 => (j1.2.1 18 (by decide) (by decide)).trans (hc9.1.2.2.2.2.1 h9), (j1.2.1 19 (by decide) (by decide)).trans hc9.1.2.2.2.2.2⟩, (j1.2.1 20 (by decide) (by decide)).trans hc9.2.1, tpR_P hc9.2.2 (frP_J j1)⟩
          have hp1 := hpm hs1
          have hp2 := b8 hsp
          have rel := add_two (is := prI (gRw s2 dp) P) (js := prI m1 P') (l := []) (m := []) (prI_mem (by rw [b6]; exact hp1.1) hp2.1) .nil ok_nil srt_0 (by rw [b6]; exact prI_v hp1.2.1.2 hp2.2.1.2)
          rcases rel with ⟨x, y, r1, r2, _⟩ | ⟨r1, r2⟩
          · rw [ea] at r2; exact absurd r2 (by simp)
          have e9 := aPc_0 hsp hlv2 r1
          refine ih k rfl w2 (aPc P s2) [] I3 (by omega) ?_ ?_ (by omega) (hfm.trans b4) (sgQ_t hq (sgQ_t b5 eS.1)) (by rw [eS.2.1, b7]; exact hal) eS.2.2 ?_ ?_ ?_
          · exact frP_t hfr (frP_t (frP_m b1 (by omega)) (frP_J j1) (Nat.le_refl _)) (Nat.le_refl _)
          · exact hcu3
          · rw [e9]; exact fun e => absurd e (by simp [wSp, wBg])
          · rw [e9]; exact bnS_i j3 j2
          · exact fun e => by rw [hq.2.2.2.2 e] at hs1; exact absurd hs1 (by decide)
        · refine qJ_nm (qWP_mono _) [(3, _)] [(2, .int (nI r)), (1, .int (nI dp)), (0, .ref 65)] rfl rfl rfl ?_
          change qJ m_X12_row (qWP _) Q 10 [(2, .int (nI r)), (1, .int (nI dp)), (0, .ref 65)] [] _ _ (z, N, I3, L, R)
          obtain ⟨k, rfl⟩ : ∃ k, q = k + 1 := ⟨q - 1, by have := hc9.1.1; omega⟩
          have eS := sgQ_ap P s2
          have hlv2 : gLv s2 = dp := b5.1.trans hlv1
          have hcu3 : curT n b w2 I3 := ⟨⟨hc9.1.1, hc9.1.2.1, (j1.2.1 17 (by decide) (by decide)).trans hc9.1.2.2.1, (j1.2.1 16 (by decide) (by decide)).trans hc9.1.2.2.2.1, fun h9 => (j1.2.1 18 (by decide) (by decide)).trans (hc9.1.2.2.2.2.1 h9), (j1.2.1 19 (by decide) (by decide)).trans hc9.1.2.2.2.2.2⟩, (j1.2.1 20 (by decide) (by decide)).trans hc9.2.1, tpR_P hc9.2.2 (frP_J j1)⟩
          have hp1 := hpm hs1
          have hp2 := b8 hsp
          have rel := add_two (is := prI (gRw s2 dp) P) (js := prI m1 P') (l := []) (m := []) (prI_mem (by rw [b6]; exact hp1.1) hp2.1) .nil ok_nil srt_0 (by rw [b6]; exact prI_v hp1.2.1.2 hp2.2.1.2)
          rcases rel with ⟨x, y, r1, r2, r3, r4, r5⟩ | ⟨r1, r2⟩
          case inr => rw [ea] at r2; exact absurd r2 (by simp)
          rw [ea] at r2
          obtain rfl := Option.some.inj r2
          obtain ⟨e7, e8, e9⟩ := aPc_1 hsp hlv2 r1
          refine ih k rfl w2 (aPc P s2) C I3 (by omega) ?_ ?_ (by omega) (hfm.trans b4) (sgQ_t hq (sgQ_t b5 eS.1)) (by rw [eS.2.1, b7]; exact hal) eS.2.2 ?_ ?_ ?_
          · exact frP_t hfr (frP_t (frP_m b1 (by omega)) (frP_J j1) (Nat.le_refl _)) (Nat.le_refl _)
          · exact hcu3
          · rw [e8]; exact fun _ => ⟨r3, r4, r5⟩
          · rw [e9]; exact ⟨j3, fun _ => ⟨j4, j2, by rw [← r3.length_eq]; exact r4.1⟩, fun e => absurd e (by decide)⟩
          · exact fun e => by rw [hq.2.2.2.2 e] at hs1; exact absurd hs1 (by decide)
  · have hn1 : ¬ wdT n b w1 = 97 := by rw [← h16]; exact c2
    refine ⟨fun (c5 : (I1 65 16) = 40) => ?_, fun (c5 : ¬ (I1 65 16) = 40) => ?_⟩
    · have hpc : pcT n b w1 := Or.inr (Or.inl (by rw [← h16]; exact c5))
      refine ⟨⟨Nat.le_refl _, Nat.le_refl _⟩, ?_⟩
      obtain ⟨c, hc15, hc4, hc2⟩ : ∃ c, I1 65 15 = nI (r + c) ∧ c ≤ 400 ∧ (gSp s1 = false → c = m1.length ∧ c ≤ 200) := by
        cases e : gSp s1 with
        | false =>
          obtain ⟨_, k2, k3⟩ := hb.2.1 e
          exact ⟨m1.length, k2, by omega, fun _ => ⟨rfl, k3⟩⟩
        | true =>
          obtain ⟨c, k1, k2⟩ := hb.2.2 e
          exact ⟨c, k2, k1, fun h => absurd h (by decide)⟩
      refine qWP_e (show d + 3 * j + 7 = d + 3 * j + 7 from rfl) ?_
      by_cases hsz : r + c + 202 + 600 * j < 4000
      case neg => exact absurd (by omega) hsz
      refine hP _ I1 (r + c) w1 s1 hsz hcu hlv1 hen1 (Or.inr hpc) (bnS_i hb.1 hc15) (fun I2 f sp m k1 k2 k3 k4 k5 k6 => ?_) (fun I2 w2 P P' s2 b1 hc9 b3 b4 b5 b6 b7 b8 b9 b10 => ?_)
      · have h21 : I2 65 21 = bI sp := k5.1
        refine ⟨fun (c6 : ¬ (I2 65 21) = 0) => ?_, fun (c6 : (I2 65 21) = 0) => ?_⟩
        · have hsp : sp = true := by
            have c9 := c6
            rw [h21] at c9
            cases e : sp with
            | true => rfl
            | false => rw [e] at c9; exact absurd rfl c9
          refine qJ_nm (qWP_mono _) [(3, _)] [(2, .int (nI r)), (1, .int (nI dp)), (0, .ref 65)] rfl rfl rfl ?_
          change qJ m_X12_row (qWP _) Q 10 [(2, .int (nI r)), (1, .int (nI dp)), (0, .ref 65)] [] _ _ (z, N, I2, L, R)
          refine l_X12_rowF (I := I) (d := d + 3 * j + 7) k2 (by omega) (hf I2 f true [] (frP_t hfr (frP_m k1 (by omega)) (Nat.le_refl _)) k2 k3 (hfm.trans k4) ?_ ?_)
          · obtain ⟨c', e1, e2⟩ := k5.2.2 hsp
            refine ⟨by rw [h21, hsp], fun e => absurd e (by decide), fun _ => ?_⟩
            cases e : gSp s1 with
            | false => exact ⟨c + c', by have := (hc2 e).2; omega, by rw [e2, Nat.add_assoc]⟩
            | true => exact ⟨c, hc4, (k6 e).2⟩
          · exact fun e => ⟨rfl, by
              have e1 := hq.2.2.2.2 e
              rw [(k6 e1).2, ← hc15]; exact h15e e⟩
        · have hsp : sp = false := by
            have c9 := c6
            rw [h21] at c9
            exact bI_1.mp c9
          refine ⟨⟨Nat.le_refl _, Nat.le_refl _⟩, ?_⟩
          have hs1 : gSp s1 = false := by
            cases e : gSp s1 with
            | false => rfl
            | true => have h8 := (k6 e).1; rw [hsp] at h8; exact absurd h8 (by decide)
          obtain ⟨ec, ec2⟩ := hc2 hs1
          obtain ⟨g1, g2, g3⟩ := hb.2.1 hs1
          obtain ⟨g4, g5, g6⟩ := k5.2.1 hsp
          subst ec
          refine qWP_as (as' := [.ref 65, .int (nI r), .int (nI (r + m1.length))]) (show [Value.ref 65, .int (nI r), .int (I1 65 15)] = _ by rw [hc15]) ?_
          refine c_X12_joins (d := d + 3 * j) (A := m1) (B := m) (by omega) (segR_s g1 (fun i hi => k1.2.2 _ (by omega))) g4 g5 (by rw [h21, hsp]; rfl) (fun ea I3 j1 j2 j3 => ?_) (fun C I3 ea j1 j2 j3 j4 => ?_)
          · refine qJ_nm (qWP_mono _) [(3, _)] [(2, .int (nI r)), (1, .int (nI dp)), (0, .ref 65)] rfl rfl rfl ?_
            change qJ m_X12_row (qWP _) Q 10 [(2, .int (nI r)), (1, .int (nI dp)), (0, .ref 65)] [] _ _ (z, N, I3, L, R)
            refine l_X12_rowF (I := I) (d := d + 3 * j + 7) ((j1.2.1 20 (by decide) (by decide)).trans k2) (by omega) (hf I3 f true [] (frP_t hfr (frP_t (frP_m k1 (by omega)) (frP_J j1) (Nat.le_refl _)) (Nat.le_refl _)) ((j1.2.1 20 (by decide) (by decide)).trans k2) k3 (hfm.trans k4) (bnS_i j3 j2) ?_)
            exact fun e => by rw [hq.2.2.2.2 e] at hs1; exact absurd hs1 (by decide)
          · refine qJ_nm (qWP_mono _) [(3, _)] [(2, .int (nI r)), (1, .int (nI dp)), (0, .ref 65)] rfl rfl rfl ?_
            change qJ m_X12_row (qWP _) Q 10 [(2, .int (nI r)), (1, .int (nI dp)), (0, .ref 65)] [] _ _ (z, N, I3, L, R)
            refine l_X12_rowF (I := I) (d := d + 3 * j + 7) ((j1.2.1 20 (by decide) (by decide)).trans k2) (by omega) (hf I3 f false C (frP_t hfr (frP_t (frP_m k1 (by omega)) (frP_J j1) (Nat.le_refl _)) (Nat.le_refl _)) ((j1.2.1 20 (by decide) (by decide)).trans k2) k3 (hfm.trans k4) ⟨j3, fun _ => ⟨j4, j2, ((addI_iff pc_apF _ _ (by decide)).mp ea).2.1 ▸ ((addI_iff pc_apF _ _ (by decide)).mp ea).2.2⟩, fun e => absurd e (by decide)⟩ ?_)
            exact fun e => by rw [hq.2.2.2.2 e] at hs1; exact absurd hs1 (by decide)
      · have h21 : I2 65 21 = bI (gSp s2) := b9.1
        refine ⟨fun (c7 : ¬ (I2 65 21) = 0) => ?_, fun (c7 : (I2 65 21) = 0) => ?_⟩
        · have hsp : gSp s2 = true := by
            have c9 := c7
            rw [h21] at c9
            cases e : gSp s2 with
            | true => rfl
            | false => rw [e] at c9; exact absurd rfl c9
          refine qJ_nm (qWP_mono _) [(3, _)] [(2, .int (nI r)), (1, .int (nI dp)), (0, .ref 65)] rfl rfl rfl ?_
          change qJ m_X12_row (qWP _) Q 10 [(2, .int (nI r)), (1, .int (nI dp)), (0, .ref 65)] [] _ _ (z, N, I2, L, R)
          obtain ⟨k, rfl⟩ : ∃ k, q = k + 1 := ⟨q - 1, by have := hc9.1.1; omega⟩
          have eS := sgQ_ap P s2
          have hlv2 : gLv s2 = dp := b5.1.trans hlv1
          have e9 := aPc_s (P := P) hsp
          refine ih k rfl w2 (aPc P s2) [] I2 (by omega) ?_ ?_ (by omega) (hfm.trans b4) (sgQ_t hq (sgQ_t b5 eS.1)) (by rw [eS.2.1, b7]; exact hal) eS.2.2 ?_ ?_ ?_
          · exact frP_t hfr (frP_m b1 (by omega)) (Nat.le_refl _)
          · exact hc9
          · rw [e9]; exact fun e => absurd (e.symm.trans hsp) (by decide)
          · rw [e9]
            obtain ⟨c', e1, e2⟩ := b9.2.2 hsp
            refine ⟨h21, fun e => absurd (e.symm.trans hsp) (by decide), fun _ => ?_⟩
            cases e : gSp s1 with
            | false => exact ⟨c + c', by have := (hc2 e).2; omega, by rw [e2, Nat.add_assoc]⟩
            | true => exact ⟨c, hc4, b10 e⟩
          · exact fun e => by
              have e1 := hq.2.2.2.2 e
              rw [b10 e1, ← hc15]; exact h15e e
        · have hsp : gSp s2 = false := by
            have c9 := c7
            rw [h21] at c9
            exact bI_1.mp c9
          refine ⟨⟨Nat.le_refl _, Nat.le_refl _⟩, ?_⟩
          have hs1 : gSp s1 = false := by
            cases e : gSp s1 with
            | false => rfl
            | true => have h8 := b5.2.2.2.2 e; rw [hsp] at h8; exact absurd h8 (by decide)
          obtain ⟨ec, ec2⟩ := hc2 hs1
          obtain ⟨g1, g2, g3⟩ := hb.2.1 hs1
          obtain ⟨g4, g5, g6⟩ := b9.2.1 hsp
          subst ec
          refine qWP_as (as' := [.ref 65, .int (nI r), .int (nI (r + m1.length))]) (show [Value.ref 65, .int (nI r), .int (I1 65 15)] = _ by rw [hc15]) ?_
          refine c_X12_joins (d := d + 3 * j) (A := m1) (B := P') (by omega) (segR_s g1 (fun i hi => b1.2.2 _ (by omega))) g4 g5 (by rw [h21, hsp]; rfl) (fun ea I3 j1 j2 j3 => ?_) (fun C I3 ea j1 j2 j3 j4 => ?_)
          · refine qJ_nm (qWP_mono _) [(3, _)] [(2, .int (nI r)), (1, .int (nI dp)), (0, .ref 65)] rfl rfl rfl ?_
            change qJ m_X12_row (qWP _) Q 10 [(2, .int (nI r)), (1, .int (nI dp)), (0, .ref 65)] [] _ _ (z, N, I3, L, R)
            obtain ⟨k, rfl⟩ : ∃ k, q = k + 1 := ⟨q - 1, by have := hc9.1.1; omega⟩
            have eS := sgQ_ap P s2
            have hlv2 : gLv s2 = dp := b5.1.trans hlv1
            have hcu3 : curT n b w2 I3 := ⟨⟨hc9.1.1, hc9.1.2.1, (j1.2.1 17 (by decide) (by decide)).trans hc9.1.2.2.1, (j1.2.1 16 (by decide) (by decide)).trans hc9.1.2.2.2.1, fun h9 => (j1.2.1 18 (by decide) (by decide)).trans (hc9.1.2.2.2.2.1 h9), (j1.2.1 19 (by decide) (by decide)).trans hc9.1.2.2.2.2.2⟩, (j1.2.1 20 (by decide) (by decide)).trans hc9.2.1, tpR_P hc9.2.2 (frP_J j1)⟩
            have hp1 := hpm hs1
            have hp2 := b8 hsp
            have rel := add_two (is := prI (gRw s2 dp) P) (js := prI m1 P') (l := []) (m := []) (prI_mem (by rw [b6]; exact hp1.1) hp2.1) .nil ok_nil srt_0 (by rw [b6]; exact prI_v hp1.2.1.2 hp2.2.1.2)
            rcases rel with ⟨x, y, r1, r2, _⟩ | ⟨r1, r2⟩
            · rw [ea] at r2; exact absurd r2 (by simp)
            have e9 := aPc_0 hsp hlv2 r1
            refine ih k rfl w2 (aPc P s2) [] I3 (by omega) ?_ ?_ (by omega) (hfm.trans b4) (sgQ_t hq (sgQ_t b5 eS.1)) (by rw [eS.2.1, b7]; exact hal) eS.2.2 ?_ ?_ ?_
            · exact frP_t hfr (frP_t (frP_m b1 (by omega)) (frP_J j1) (Nat.le_refl _)) (Nat.le_refl _)
            · exact hcu3
            · rw [e9]; exact fun e => absurd e (by simp [wSp, wBg])
            · rw [e9]; exact bnS_i j3 j2
            · exact fun e => by rw [hq.2.2.2.2 e] at hs1; exact absurd hs1 (by decide)
          · refine qJ_nm (qWP_mono _) [(3, _)] [(2, .int (nI r)), (1, .int (nI dp)), (0, .ref 65)] rfl rfl rfl ?_
            change qJ m_X12_row (qWP _) Q 10 [(2, .int (nI r)), (1, .int (nI dp)), (0, .ref 65)] [] _ _ (z, N, I3, L, R)
            obtain ⟨k, rfl⟩ : ∃ k, q = k + 1 := ⟨q - 1, by have := hc9.1.1; omega⟩
            have eS := sgQ_ap P s2
            have hlv2 : gLv s2 = dp := b5.1.trans hlv1
            have hcu3 : curT n b w2 I3 := ⟨⟨hc9.1.1, hc9.1.2.1, (j1.2.1 17 (by decide) (by decide)).trans hc9.1.2.2.1, (j1.2.1 16 (by decide) (by decide)).trans hc9.1.2.2.2.1, fun h9 => (j1.2.1 18 (by decide) (by decide)).trans (hc9.1.2.2.2.2.1 h9), (j1.2.1 19 (by decide) (by decide)).trans hc9.1.2.2.2.2.2⟩, (j1.2.1 20 (by decide) (by decide)).trans hc9.2.1, tpR_P hc9.2.2 (frP_J j1)⟩
            have hp1 := hpm hs1
            have hp2 := b8 hsp
            have rel := add_two (is := prI (gRw s2 dp) P) (js := prI m1 P') (l := []) (m := []) (prI_mem (by rw [b6]; exact hp1.1) hp2.1) .nil ok_nil srt_0 (by rw [b6]; exact prI_v hp1.2.1.2 hp2.2.1.2)
            rcases rel with ⟨x, y, r1, r2, r3, r4, r5⟩ | ⟨r1, r2⟩
            case inr => rw [ea] at r2; exact absurd r2 (by simp)
            rw [ea] at r2
            obtain rfl := Option.some.inj r2
            obtain ⟨e7, e8, e9⟩ := aPc_1 hsp hlv2 r1
            refine ih k rfl w2 (aPc P s2) C I3 (by omega) ?_ ?_ (by omega) (hfm.trans b4) (sgQ_t hq (sgQ_t b5 eS.1)) (by rw [eS.2.1, b7]; exact hal) eS.2.2 ?_ ?_ ?_
            · exact frP_t hfr (frP_t (frP_m b1 (by omega)) (frP_J j1) (Nat.le_refl _)) (Nat.le_refl _)
            · exact hcu3
            · rw [e8]; exact fun _ => ⟨r3, r4, r5⟩
            · rw [e9]; exact ⟨j3, fun _ => ⟨j4, j2, by rw [← r3.length_eq]; exact r4.1⟩, fun e => absurd e (by decide)⟩
            · exact fun e => by rw [hq.2.2.2.2 e] at hs1; exact absurd hs1 (by decide)
    · have hn2 : ¬ wdT n b w1 = 40 := by rw [← h16]; exact c5
      refine ⟨fun (c8 : ¬ (I1 65 16) = 91) => ?_, fun (c8 : (I1 65 16) = 91) => ?_⟩
      · have hn3 : ¬ wdT n b w1 = 91 := by rw [← h16]; exact c8
        change Q none (z, N, I1, L, R)
        exact hg I1 w1 m1 s1 hfr hcu hlt hfm hq hal hbg (fun h9 => by rcases h9 with h8 | h8 | h8 <;> contradiction) hpm hb h15e
      · have hpc : pcT n b w1 := Or.inr (Or.inr (by rw [← h16]; exact c8))
        refine ⟨⟨Nat.le_refl _, Nat.le_refl _⟩, ?_⟩
        obtain ⟨c, hc15, hc4, hc2⟩ : ∃ c, I1 65 15 = nI (r + c) ∧ c ≤ 400 ∧ (gSp s1 = false → c = m1.length ∧ c ≤ 200) := by
          cases e : gSp s1 with
          | false =>
            obtain ⟨_, k2, k3⟩ := hb.2.1 e
            exact ⟨m1.length, k2, by omega, fun _ => ⟨rfl, k3⟩⟩
          | true =>
            obtain ⟨c, k1, k2⟩ := hb.2.2 e
            exact ⟨c, k2, k1, fun h => absurd h (by decide)⟩
        refine qWP_e (show d + 3 * j + 7 = d + 3 * j + 7 from rfl) ?_
        by_cases hsz : r + c + 202 + 600 * j < 4000
        case neg => exact absurd (by omega) hsz
        refine hP _ I1 (r + c) w1 s1 hsz hcu hlv1 hen1 (Or.inr hpc) (bnS_i hb.1 hc15) (fun I2 f sp m k1 k2 k3 k4 k5 k6 => ?_) (fun I2 w2 P P' s2 b1 hc9 b3 b4 b5 b6 b7 b8 b9 b10 => ?_)
        · have h21 : I2 65 21 = bI sp := k5.1
          refine ⟨fun (c9 : ¬ (I2 65 21) = 0) => ?_, fun (c9 : (I2 65 21) = 0) => ?_⟩
          · have hsp : sp = true := by
              have c9 := c9
              rw [h21] at c9
              cases e : sp with
              | true => rfl
              | false => rw [e] at c9; exact absurd rfl c9
            refine qJ_nm (qWP_mono _) [(3, _)] [(2, .int (nI r)), (1, .int (nI dp)), (0, .ref 65)] rfl rfl rfl ?_
            change qJ m_X12_row (qWP _) Q 10 [(2, .int (nI r)), (1, .int (nI dp)), (0, .ref 65)] [] _ _ (z, N, I2, L, R)
            refine l_X12_rowF (I := I) (d := d + 3 * j + 7) k2 (by omega) (hf I2 f true [] (frP_t hfr (frP_m k1 (by omega)) (Nat.le_refl _)) k2 k3 (hfm.trans k4) ?_ ?_)
            · obtain ⟨c', e1, e2⟩ := k5.2.2 hsp
              refine ⟨by rw [h21, hsp], fun e => absurd e (by decide), fun _ => ?_⟩
              cases e : gSp s1 with
              | false => exact ⟨c + c', by have := (hc2 e).2; omega, by rw [e2, Nat.add_assoc]⟩
              | true => exact ⟨c, hc4, (k6 e).2⟩
            · exact fun e => ⟨rfl, by
                have e1 := hq.2.2.2.2 e
                rw [(k6 e1).2, ← hc15]; exact h15e e⟩
          · have hsp : sp = false := by
              have c9 := c9
              rw [h21] at c9
              exact bI_1.mp c9
            refine ⟨⟨Nat.le_refl _, Nat.le_refl _⟩, ?_⟩
            have hs1 : gSp s1 = false := by
              cases e : gSp s1 with
              | false => rfl
              | true => have h8 := (k6 e).1; rw [hsp] at h8; exact absurd h8 (by decide)
            obtain ⟨ec, ec2⟩ := hc2 hs1
            obtain ⟨g1, g2, g3⟩ := hb.2.1 hs1
            obtain ⟨g4, g5, g6⟩ := k5.2.1 hsp
            subst ec
            refine qWP_as (as' := [.ref 65, .int (nI r), .int (nI (r + m1.length))]) (show [Value.ref 65, .int (nI r), .int (I1 65 15)] = _ by rw [hc15]) ?_
            refine c_X12_joins (d := d + 3 * j) (A := m1) (B := m) (by omega) (segR_s g1 (fun i hi => k1.2.2 _ (by omega))) g4 g5 (by rw [h21, hsp]; rfl) (fun ea I3 j1 j2 j3 => ?_) (fun C I3 ea j1 j2 j3 j4 => ?_)
            · refine qJ_nm (qWP_mono _) [(3, _)] [(2, .int (nI r)), (1, .int (nI dp)), (0, .ref 65)] rfl rfl rfl ?_
              change qJ m_X12_row (qWP _) Q 10 [(2, .int (nI r)), (1, .int (nI dp)), (0, .ref 65)] [] _ _ (z, N, I3, L, R)
              refine l_X12_rowF (I := I) (d := d + 3 * j + 7) ((j1.2.1 20 (by decide) (by decide)).trans k2) (by omega) (hf I3 f true [] (frP_t hfr (frP_t (frP_m k1 (by omega)) (frP_J j1) (Nat.le_refl _)) (Nat.le_refl _)) ((j1.2.1 20 (by decide) (by decide)).trans k2) k3 (hfm.trans k4) (bnS_i j3 j2) ?_)
              exact fun e => by rw [hq.2.2.2.2 e] at hs1; exact absurd hs1 (by decide)
            · refine qJ_nm (qWP_mono _) [(3, _)] [(2, .int (nI r)), (1, .int (nI dp)), (0, .ref 65)] rfl rfl rfl ?_
              change qJ m_X12_row (qWP _) Q 10 [(2, .int (nI r)), (1, .int (nI dp)), (0, .ref 65)] [] _ _ (z, N, I3, L, R)
              refine l_X12_rowF (I := I) (d := d + 3 * j + 7) ((j1.2.1 20 (by decide) (by decide)).trans k2) (by omega) (hf I3 f false C (frP_t hfr (frP_t (frP_m k1 (by omega)) (frP_J j1) (Nat.le_refl _)) (Nat.le_refl _)) ((j1.2.1 20 (by decide) (by decide)).trans k2) k3 (hfm.trans k4) ⟨j3, fun _ => ⟨j4, j2, ((addI_iff pc_apF _ _ (by decide)).mp ea).2.1 ▸ ((addI_iff pc_apF _ _ (by decide)).mp ea).2.2⟩, fun e => absurd e (by decide)⟩ ?_)
              exact fun e => by rw [hq.2.2.2.2 e] at hs1; exact absurd hs1 (by decide)
        · have h21 : I2 65 21 = bI (gSp s2) := b9.1
          refine ⟨fun (c10 : ¬ (I2 65 21) = 0) => ?_, fun (c10 : (I2 65 21) = 0) => ?_⟩
          · have hsp : gSp s2 = true := by
              have c9 := c10
              rw [h21] at c9
              cases e : gSp s2 with
              | true => rfl
              | false => rw [e] at c9; exact absurd rfl c9
            refine qJ_nm (qWP_mono _) [(3, _)] [(2, .int (nI r)), (1, .int (nI dp)), (0, .ref 65)] rfl rfl rfl ?_
            change qJ m_X12_row (qWP _) Q 10 [(2, .int (nI r)), (1, .int (nI dp)), (0, .ref 65)] [] _ _ (z, N, I2, L, R)
            obtain ⟨k, rfl⟩ : ∃ k, q = k + 1 := ⟨q - 1, by have := hc9.1.1; omega⟩
            have eS := sgQ_ap P s2
            have hlv2 : gLv s2 = dp := b5.1.trans hlv1
            have e9 := aPc_s (P := P) hsp
            refine ih k rfl w2 (aPc P s2) [] I2 (by omega) ?_ ?_ (by omega) (hfm.trans b4) (sgQ_t hq (sgQ_t b5 eS.1)) (by rw [eS.2.1, b7]; exact hal) eS.2.2 ?_ ?_ ?_
            · exact frP_t hfr (frP_m b1 (by omega)) (Nat.le_refl _)
            · exact hc9
            · rw [e9]; exact fun e => absurd (e.symm.trans hsp) (by decide)
            · rw [e9]
              obtain ⟨c', e1, e2⟩ := b9.2.2 hsp
              refine ⟨h21, fun e => absurd (e.symm.trans hsp) (by decide), fun _ => ?_⟩
              cases e : gSp s1 with
              | false => exact ⟨c + c', by have := (hc2 e).2; omega, by rw [e2, Nat.add_assoc]⟩
              | true => exact ⟨c, hc4, b10 e⟩
            · exact fun e => by
                have e1 := hq.2.2.2.2 e
                rw [b10 e1, ← hc15]; exact h15e e
          · have hsp : gSp s2 = false := by
              have c9 := c10
              rw [h21] at c9
              exact bI_1.mp c9
            refine ⟨⟨Nat.le_refl _, Nat.le_refl _⟩, ?_⟩
            have hs1 : gSp s1 = false := by
              cases e : gSp s1 with
              | false => rfl
              | true => have h8 := b5.2.2.2.2 e; rw [hsp] at h8; exact absurd h8 (by decide)
            obtain ⟨ec, ec2⟩ := hc2 hs1
            obtain ⟨g1, g2, g3⟩ := hb.2.1 hs1
            obtain ⟨g4, g5, g6⟩ := b9.2.1 hsp
            subst ec
            refine qWP_as (as' := [.ref 65, .int (nI r), .int (nI (r + m1.length))]) (show [Value.ref 65, .int (nI r), .int (I1 65 15)] = _ by rw [hc15]) ?_
            refine c_X12_joins (d := d + 3 * j) (A := m1) (B := P') (by omega) (segR_s g1 (fun i hi => b1.2.2 _ (by omega))) g4 g5 (by rw [h21, hsp]; rfl) (fun ea I3 j1 j2 j3 => ?_) (fun C I3 ea j1 j2 j3 j4 => ?_)
            · refine qJ_nm (qWP_mono _) [(3, _)] [(2, .int (nI r)), (1, .int (nI dp)), (0, .ref 65)] rfl rfl rfl ?_
              change qJ m_X12_row (qWP _) Q 10 [(2, .int (nI r)), (1, .int (nI dp)), (0, .ref 65)] [] _ _ (z, N, I3, L, R)
              obtain ⟨k, rfl⟩ : ∃ k, q = k + 1 := ⟨q - 1, by have := hc9.1.1; omega⟩
              have eS := sgQ_ap P s2
              have hlv2 : gLv s2 = dp := b5.1.trans hlv1
              have hcu3 : curT n b w2 I3 := ⟨⟨hc9.1.1, hc9.1.2.1, (j1.2.1 17 (by decide) (by decide)).trans hc9.1.2.2.1, (j1.2.1 16 (by decide) (by decide)).trans hc9.1.2.2.2.1, fun h9 => (j1.2.1 18 (by decide) (by decide)).trans (hc9.1.2.2.2.2.1 h9), (j1.2.1 19 (by decide) (by decide)).trans hc9.1.2.2.2.2.2⟩, (j1.2.1 20 (by decide) (by decide)).trans hc9.2.1, tpR_P hc9.2.2 (frP_J j1)⟩
              have hp1 := hpm hs1
              have hp2 := b8 hsp
              have rel := add_two (is := prI (gRw s2 dp) P) (js := prI m1 P') (l := []) (m := []) (prI_mem (by rw [b6]; exact hp1.1) hp2.1) .nil ok_nil srt_0 (by rw [b6]; exact prI_v hp1.2.1.2 hp2.2.1.2)
              rcases rel with ⟨x, y, r1, r2, _⟩ | ⟨r1, r2⟩
              · rw [ea] at r2; exact absurd r2 (by simp)
              have e9 := aPc_0 hsp hlv2 r1
              refine ih k rfl w2 (aPc P s2) [] I3 (by omega) ?_ ?_ (by omega) (hfm.trans b4) (sgQ_t hq (sgQ_t b5 eS.1)) (by rw [eS.2.1, b7]; exact hal) eS.2.2 ?_ ?_ ?_
              · exact frP_t hfr (frP_t (frP_m b1 (by omega)) (frP_J j1) (Nat.le_refl _)) (Nat.le_refl _)
              · exact hcu3
              · rw [e9]; exact fun e => absurd e (by simp [wSp, wBg])
              · rw [e9]; exact bnS_i j3 j2
              · exact fun e => by rw [hq.2.2.2.2 e] at hs1; exact absurd hs1 (by decide)
            · refine qJ_nm (qWP_mono _) [(3, _)] [(2, .int (nI r)), (1, .int (nI dp)), (0, .ref 65)] rfl rfl rfl ?_
              change qJ m_X12_row (qWP _) Q 10 [(2, .int (nI r)), (1, .int (nI dp)), (0, .ref 65)] [] _ _ (z, N, I3, L, R)
              obtain ⟨k, rfl⟩ : ∃ k, q = k + 1 := ⟨q - 1, by have := hc9.1.1; omega⟩
              have eS := sgQ_ap P s2
              have hlv2 : gLv s2 = dp := b5.1.trans hlv1
              have hcu3 : curT n b w2 I3 := ⟨⟨hc9.1.1, hc9.1.2.1, (j1.2.1 17 (by decide) (by decide)).trans hc9.1.2.2.1, (j1.2.1 16 (by decide) (by decide)).trans hc9.1.2.2.2.1, fun h9 => (j1.2.1 18 (by decide) (by decide)).trans (hc9.1.2.2.2.2.1 h9), (j1.2.1 19 (by decide) (by decide)).trans hc9.1.2.2.2.2.2⟩, (j1.2.1 20 (by decide) (by decide)).trans hc9.2.1, tpR_P hc9.2.2 (frP_J j1)⟩
              have hp1 := hpm hs1
              have hp2 := b8 hsp
              have rel := add_two (is := prI (gRw s2 dp) P) (js := prI m1 P') (l := []) (m := []) (prI_mem (by rw [b6]; exact hp1.1) hp2.1) .nil ok_nil srt_0 (by rw [b6]; exact prI_v hp1.2.1.2 hp2.2.1.2)
              rcases rel with ⟨x, y, r1, r2, r3, r4, r5⟩ | ⟨r1, r2⟩
              case inr => rw [ea] at r2; exact absurd r2 (by simp)
              rw [ea] at r2
              obtain rfl := Option.some.inj r2
              obtain ⟨e7, e8, e9⟩ := aPc_1 hsp hlv2 r1
              refine ih k rfl w2 (aPc P s2) C I3 (by omega) ?_ ?_ (by omega) (hfm.trans b4) (sgQ_t hq (sgQ_t b5 eS.1)) (by rw [eS.2.1, b7]; exact hal) eS.2.2 ?_ ?_ ?_
              · exact frP_t hfr (frP_t (frP_m b1 (by omega)) (frP_J j1) (Nat.le_refl _)) (Nat.le_refl _)
              · exact hcu3
              · rw [e8]; exact fun _ => ⟨r3, r4, r5⟩
              · rw [e9]; exact ⟨j3, fun _ => ⟨j4, j2, by rw [← r3.length_eq]; exact r4.1⟩, fun e => absurd e (by decide)⟩
              · exact fun e => by rw [hq.2.2.2.2 e] at hs1; exact absurd hs1 (by decide)
theorem c_X12_row {d z : Nat} {N : Nat → Nat} {I : Nat → Nat → Int32} {L : Nat → Nat → Int64} {R : Nat → Nat → Option Nat} {Q : qP} {n r w dp j : Nat} {b : Nat → Int32} {s : sg} (hj : dp + j = 4) (hP : OKpiece d z N L R n b j dp) (hr : r + 602 + 600 * j < 4000) (hT200 : n ≤ 200) (hlv : gLv s = dp) (hen : gEn s = false) (hcu : curT n b w I) (hbg : gBg s = false) (hrw : gRw s dp = [0]) (hbk : bnS I r (gSp s) [] 0) (hf : ∀ I' f sp m, frP I I' r → I' 65 20 = nI f → f ≤ n → fmR n b w s = .inl f → bnS I' r sp m 400 → (gSp s = true → sp = true ∧ I' 65 15 = nI r) → Q none (z, N, I', L, R)) (hg : ∀ I' w' m s', frP I I' r → curT n b w' I' → w < w' → fmR n b w s = fmR n b w' s' → sgQ s s' → gAl s' dp = gAl s dp → gBg s' = true → ¬ pcT n b w' → (gSp s' = false → (gRw s' dp).Perm m ∧ okS (gRw s' dp) ∧ srt (gRw s' dp)) → bnS I' r (gSp s') m 400 → (gSp s = true → I' 65 15 = nI r) → Q none (z, N, I', L, R)) : qWP (d + 3 * j + 8) 189 [.ref 65, .int (nI dp)] (z, N, I, L, R) Q := by
  have h15 : I 65 15 = nI r := bnS_0 hbk
  refine qWP_of m_X12_row rfl rfl [(0, .ref 65), (1, .int (nI dp))] rfl ?_
  refine qJ_run (qWP_mono _) [10] 400 ?_
  refine ⟨⟨Nat.le_refl _, Nat.le_refl _⟩, ?_⟩
  refine hP _ I r w s (by omega) hcu hlv hen (Or.inl hbg) hbk (fun I2 f sp m k1 k2 k3 k4 k5 k6 => ?_) (fun I2 w2 P P' s2 b1 hc9 b3 b4 b5 b6 b7 b8 b9 b10 => ?_)
  · refine qJ_nm (qWP_mono _) [] [(2, .int (I 65 15)), (1, .int (nI dp)), (0, .ref 65)] rfl rfl rfl ?_
    change qJ m_X12_row (qWP _) Q 10 [(2, .int (I 65 15)), (1, .int (nI dp)), (0, .ref 65)] [] _ _ (z, N, I2, L, R)
    rw [h15]
    exact l_X12_rowF (I := I) (d := d + 3 * j + 7) k2 (by omega) (hf I2 f sp m k1 k2 k3 k4 (bnS_m k5 (by decide)) k6)
  · refine qJ_nm (qWP_mono _) [] [(2, .int (I 65 15)), (1, .int (nI dp)), (0, .ref 65)] rfl rfl rfl ?_
    change qJ m_X12_row (qWP _) Q 10 [(2, .int (I 65 15)), (1, .int (nI dp)), (0, .ref 65)] [] _ _ (z, N, I2, L, R)
    rw [h15]
    have eS := sgQ_ap P s2
    have hlv2 : gLv s2 = dp := b5.1.trans hlv
    refine l_X12_row (d := d) hj hP hr hT200 hlv hen hf hg n w2 (aPc P s2) P' I2 (by omega) b1 hc9 b3 b4 (sgQ_t b5 eS.1) (by rw [eS.2.1]; exact b7) eS.2.2 (fun e => ?_) ?_ b10
    · have hs2 : gSp s2 = false := by
        cases e2 : gSp s2 with
        | false => rfl
        | true => rw [(aPc_K P s2).2.2.2.2.2.2 e2] at e; exact absurd e (by decide)
      have hp2 := b8 hs2
      have e3 : addI ins 200 (prI (gRw s2 dp) P) [] = some P := by rw [b6, hrw, prI_nil]; exact addI_self hp2.2.2 hp2.2.1.1
      rw [(aPc_1 hs2 hlv2 e3).2.1]
      exact hp2
    · cases e2 : gSp s2 with
      | true => rw [aPc_s e2]; rw [e2] at b9; show bnS I2 r (gSp s2) P' 400; rw [e2]; exact bnS_m b9 (by decide)
      | false =>
        have hp2 := b8 e2
        have e3 : addI ins 200 (prI (gRw s2 dp) P) [] = some P := by rw [b6, hrw, prI_nil]; exact addI_self hp2.2.2 hp2.2.1.1
        rw [(aPc_1 e2 hlv2 e3).2.2, ← e2]
        exact bnS_m b9 (by decide)
theorem ok_row {d z : Nat} {N : Nat → Nat} {L : Nat → Nat → Int64} {R : Nat → Nat → Option Nat} {n : Nat} {b : Nat → Int32} {j dp : Nat} (hj : dp + j = 4) (hP : OKpiece d z N L R n b j dp) : OKrow d z N L R n b j dp :=
  fun Q I r w s hr hcu hlv hen hbg hrw hbk hf hg => c_X12_row (d := d) hj hP hr hcu.2.2.2.1 hlv hen hcu hbg hrw hbk hf hg
