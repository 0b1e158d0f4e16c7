/-! formulas: the reference's walk -/
def frP (I I' : Nat → Nat → Int32) (a : Nat) : Prop := (∀ c, c ≠ 65 → c ≠ 72 → c ≠ 73 → I' c = I c) ∧ (∀ j, (j < 15 ∨ 21 < j) → I' 65 j = I 65 j) ∧ ∀ y, y < a → sameE I I' y
theorem frP_r {I : Nat → Nat → Int32} {a : Nat} : frP I I a := ⟨fun _ _ _ _ => rfl, fun _ _ => rfl, fun _ _ => sameE_r⟩
theorem frP_t {I J K : Nat → Nat → Int32} {a a' : Nat} (h : frP I J a) (h' : frP J K a') (ha : a ≤ a') : frP I K a := ⟨fun c h1 h2 h3 => (h'.1 c h1 h2 h3).trans (h.1 c h1 h2 h3), fun j h1 => (h'.2.1 j h1).trans (h.2.1 j h1), fun y hy => sameE_t (h.2.2 y hy) (h'.2.2 y (by omega))⟩
theorem frP_m {I J : Nat → Nat → Int32} {a a' : Nat} (h : frP I J a') (ha : a ≤ a') : frP I J a := ⟨h.1, h.2.1, fun y hy => h.2.2 y (by omega)⟩
theorem frP_J {I J : Nat → Nat → Int32} {a : Nat} (h : frJ I J a) : frP I J a := ⟨h.1, fun j hj => h.2.1 j (by omega) (by omega), h.2.2⟩
theorem fr19_E {I J : Nat → Nat → Int32} (h : fr19 I J) {y : Nat} : sameE I J y := by
  unfold sameE
  rw [h.1 73 (by decide), h.1 72 (by decide)]
  exact ⟨rfl, fun _ _ => rfl⟩
theorem frP_19 {I J : Nat → Nat → Int32} {a : Nat} (h : fr19 I J) : frP I J a := ⟨fun c h1 _ _ => h.1 c h1, fun j hj => h.2 j (by omega), fun _ _ => fr19_E h⟩
theorem frP_s {I J : Nat → Nat → Int32} {a j : Nat} {v : Int32} (h : frP I J a) (hj : 15 ≤ j ∧ j ≤ 21) : frP I (q2 J 65 j v) a := ⟨fun c h1 h2 h3 => by rw [q2_ne h1]; exact h.1 c h1 h2 h3, fun k hk => by rw [q2_nj (by omega)]; exact h.2.1 k hk, fun y hy => sameE_t (h.2.2 y hy) (by unfold sameE; rw [q2_ne (by decide), q2_ne (by decide)]; exact ⟨rfl, fun _ _ => rfl⟩)⟩
theorem tpR_P {n : Nat} {b : Nat → Int32} {I J : Nat → Nat → Int32} {a : Nat} (h : tpR n b I) (hf : frP I J a) : tpR n b J := ⟨by rw [hf.2.1 6 (by omega)]; exact h.1, h.2.1, fun p hp => by rw [hf.1 69 (by decide) (by decide) (by decide)]; exact h.2.2 p hp⟩
def curT (n : Nat) (b : Nat → Int32) (w : Nat) (I : Nat → Nat → Int32) : Prop := tokAt n b w I ∧ I 65 20 = -1 ∧ tpR n b I
/-- how many the bank holds from a on, whether it is spent -/
def bnS (I : Nat → Nat → Int32) (a : Nat) (sp : Bool) (m : List Nat) (lim : Nat) : Prop := I 65 21 = bI sp ∧ (sp = false → segR I a m ∧ I 65 15 = nI (a + m.length) ∧ m.length ≤ 200) ∧ (sp = true → ∃ c, c ≤ lim ∧ I 65 15 = nI (a + c))
theorem bnS_m {I : Nat → Nat → Int32} {a lim lim' : Nat} {sp : Bool} {m : List Nat} (h : bnS I a sp m lim) (hl : lim ≤ lim') : bnS I a sp m lim' := ⟨h.1, h.2.1, fun e => by obtain ⟨c, h1, h2⟩ := h.2.2 e; exact ⟨c, by omega, h2⟩⟩
theorem bnS_E {I J : Nat → Nat → Int32} {a lim : Nat} {sp : Bool} {m : List Nat} (h : bnS I a sp m lim) (h1 : J 65 15 = I 65 15) (h2 : J 65 21 = I 65 21) (hE : ∀ y, sameE I J y) : bnS J a sp m lim := ⟨h2.trans h.1, fun e => ⟨segR_s (h.2.1 e).1 (fun i _ => hE _), h1.trans (h.2.1 e).2.1, (h.2.1 e).2.2⟩, fun e => by obtain ⟨c, k1, k2⟩ := h.2.2 e; exact ⟨c, k1, h1.trans k2⟩⟩
theorem bnS_19 {I J : Nat → Nat → Int32} {a lim : Nat} {sp : Bool} {m : List Nat} (h : bnS I a sp m lim) (hf : fr19 I J) : bnS J a sp m lim := bnS_E h (hf.2 15 (by omega)) (hf.2 21 (by omega)) fun _ => fr19_E hf
theorem bnS_0 {I : Nat → Nat → Int32} {a : Nat} {sp : Bool} (h : bnS I a sp [] 0) : I 65 15 = nI a := by
  cases sp with
  | false => exact (h.2.1 rfl).2.1
  | true =>
    obtain ⟨c, h1, h2⟩ := h.2.2 rfl
    rw [h2, Nat.le_zero.mp h1, Nat.add_zero]
theorem bnS_i {I : Nat → Nat → Int32} {a lim : Nat} {sp : Bool} (h1 : I 65 21 = bI sp) (h2 : I 65 15 = nI a) : bnS I a sp [] lim := ⟨h1, fun _ => ⟨fun i hi => absurd hi (by simp), h2, by decide⟩, fun _ => ⟨0, Nat.zero_le _, h2⟩⟩
def sgQ (s s' : sg) : Prop := gLv s' = gLv s ∧ gEn s' = gEn s ∧ (∀ j, j ≤ gLv s → gOp s' j = gOp s j) ∧ (∀ j, j < gLv s → gRw s' j = gRw s j ∧ gAl s' j = gAl s j) ∧ (gSp s = true → gSp s' = true)
theorem sgQ_r {s : sg} : sgQ s s := ⟨rfl, rfl, fun _ _ => rfl, fun _ _ => ⟨rfl, rfl⟩, id⟩
theorem sgQ_t {s t u : sg} (h : sgQ s t) (h' : sgQ t u) : sgQ s u := ⟨h'.1.trans h.1, h'.2.1.trans h.2.1, fun j hj => (h'.2.2.1 j (by rw [h.1]; exact hj)).trans (h.2.2.1 j hj), fun j hj => ⟨(h'.2.2.2.1 j (by rw [h.1]; exact hj)).1.trans (h.2.2.2.1 j hj).1, (h'.2.2.2.1 j (by rw [h.1]; exact hj)).2.trans (h.2.2.2.1 j hj).2⟩, fun e => h'.2.2.2.2 (h.2.2.2.2 e)⟩
/-- a piece at a token -/
def pcT (n : Nat) (b : Nat → Int32) (w : Nat) : Prop := wdT n b w = 97 ∨ wdT n b w = 40 ∨ wdT n b w = 91
def OKpiece (d z : Nat) (N : Nat → Nat) (L : Nat → Nat → Int64) (R : Nat → Nat → Option Nat) (n : Nat) (b : Nat → Int32) (j dp : Nat) : Prop := ∀ (Q : qP) (I : Nat → Nat → Int32) (a w : Nat) (s : sg), a + 202 + 600 * j < 4000 → curT n b w I → gLv s = dp → gEn s = false → (gBg s = false ∨ pcT n b w) → bnS I a (gSp s) [] 0 →
  (∀ I' f sp m, frP I I' a → I' 65 20 = nI f → f ≤ n → fmR n b w s = .inl f → bnS I' a sp m 200 → (gSp s = true → sp = true ∧ I' 65 15 = nI a) → Q none (z, N, I', L, R)) →
  (∀ I' w' P P' s1, frP I I' a → curT n b w' I' → w < w' → fmR n b w s = fmR n b w' (aPc P s1) → sgQ s s1 → gRw s1 dp = gRw s dp → gAl s1 dp = gAl s dp → (gSp s1 = false → P.Perm P' ∧ okS P ∧ srt P) → bnS I' a (gSp s1) P' 200 → (gSp s = true → I' 65 15 = nI a) → Q none (z, N, I', L, R)) →
  qWP (d + 3 * j + 7) 191 [.ref 65, .int (nI dp)] (z, N, I, L, R) Q
def OKall (d z : Nat) (N : Nat → Nat) (L : Nat → Nat → Int64) (R : Nat → Nat → Option Nat) (n : Nat) (b : Nat → Int32) (j dp : Nat) : Prop := ∀ (Q : qP) (I : Nat → Nat → Int32) (a w : Nat) (s : sg), a + 802 + 600 * j < 4000 → curT n b w I → gLv s = dp → gEn s = false → gBg s = false → gRw s dp = [0] → gAl s dp = [] → bnS I a (gSp s) [] 0 →
  (∀ I' f sp m, frP I I' a → I' 65 20 = nI f → f ≤ n → fmR n b w s = .inl f → bnS I' a sp m 200 → (gSp s = true → sp = true ∧ I' 65 15 = nI a) → Q none (z, N, I', L, R)) →
  (∀ I' w' m s', frP I I' a → curT n b w' I' → w < w' → fmR n b w s = fmR n b w' s' → sgQ s s' → gBg s' = true → ¬ pcT n b w' → ¬ wdT n b w' = 124 → (gSp (eRow s') = false → (gAl (eRow s') dp).Perm m ∧ okS (gAl (eRow s') dp) ∧ srt (gAl (eRow s') dp)) → bnS I' a (gSp (eRow s')) m 200 → (gSp s = true → I' 65 15 = nI a) → Q none (z, N, I', L, R)) →
  qWP (d + 3 * j + 9) 188 [.ref 65, .int (nI dp)] (z, N, I, L, R) Q
theorem fm_n {n : Nat} {b : Nat → Int32} {w : Nat} {s : sg} (hw : w ≤ n) (hen : gEn s = false) (h : w < n → stT s (tkA n b w) (wKey b w (letN n b w)) = none) : fmR n b w s = .inl w := by
  by_cases h9 : w < n
  · exact fm_f h9 (h h9)
  · rw [fm_e h9, if_neg (by rw [hen]; decide)]
    congr 1
    omega
theorem tkA_v {n : Nat} {b : Nat → Int32} {w : Nat} : tkA n b w = 97 ∨ tkA n b w = 0 ∨ tkA n b w = 1 ∨ tkA n b w = 40 ∨ tkA n b w = 41 ∨ tkA n b w = 91 ∨ tkA n b w = 93 ∨ tkA n b w = 124 ∨ tkA n b w = 46 := by
  unfold tkA
  split
  · split
    · exact Or.inr (Or.inr (Or.inl rfl))
    · exact Or.inl rfl
  · unfold tkB
    split
    · exact Or.inr (Or.inl rfl)
    · split
      · rename_i h
        rcases h with h | h | h | h | h | h <;> rw [h] <;> decide
      · exact Or.inr (Or.inr (Or.inl rfl))
/-- white tokens are none -/
theorem tk_nw {n : Nat} {b : Nat → Int32} {w : Nat} (h : ¬ isWh (b w)) : ¬ tkA n b w = 0 := by
  unfold tkA
  split
  · split <;> decide
  · intro h9
    exact h (tkB_w.mp h9)
/-- no piece at a row's begin: a fault -/
theorem fm_np {n : Nat} {b : Nat → Int32} {w : Nat} {s : sg} (hw : w ≤ n) (hwh : w < n → ¬ isWh (b w)) (hen : gEn s = false) (hbg : gBg s = false) (h : ¬ pcT n b w) : fmR n b w s = .inl w := by
  refine fm_n hw hen fun h9 => ?_
  have e : wdT n b w = tkA n b w := if_pos h9
  unfold pcT at h
  rw [e] at h
  have hz := tk_nw (n := n) (hwh h9)
  unfold stT
  rw [if_neg hz, if_neg (by rw [hen]; decide), if_neg (fun h8 => h (Or.inl h8)), if_neg (fun h8 => h (by rcases h8 with h8 | h8 <;> simp [h8]))]
  split
  · rw [if_neg (fun h8 => by rw [hbg] at h8; exact absurd h8.2.1 (by decide))]
  · split
    · rw [if_neg (by rw [hbg]; decide)]
    · split
      · rw [if_neg (fun h8 => by rw [hbg] at h8; exact absurd h8.1 (by decide))]
      · rfl
/-- a bracket too deep -/
theorem fm_dp {n : Nat} {b : Nat → Int32} {w : Nat} {s : sg} (hw : w ≤ n) (hwh : w < n → ¬ isWh (b w)) (hen : gEn s = false) (hlv : gLv s = 4) (h : wdT n b w = 40 ∨ wdT n b w = 91) : fmR n b w s = .inl w := by
  have h9 : w < n := by
    refine Decidable.byContradiction fun h8 => ?_
    unfold wdT at h
    rw [if_neg h8] at h
    rcases h with h | h <;> exact absurd h (by decide)
  have e : wdT n b w = tkA n b w := if_pos h9
  rw [e] at h
  refine fm_f h9 ?_
  unfold stT
  rw [if_neg (tk_nw (hwh h9)), if_neg (by rw [hen]; decide), if_neg (fun h8 => by rw [h8] at h; rcases h with h | h <;> exact absurd h (by decide)), if_pos h, if_neg (by omega)]
theorem wd_lt {n : Nat} {b : Nat → Int32} {w : Nat} {x : Int32} (h : wdT n b w = x) (hx : ¬ x = 0) : w < n ∧ tkA n b w = x := by
  by_cases h8 : w < n
  · unfold wdT at h; rw [if_pos h8] at h; exact ⟨h8, h⟩
  · unfold wdT at h; rw [if_neg h8] at h; exact absurd h.symm hx
/-! formulas: the reference's piece -/
theorem tkA_l0 {n : Nat} {b : Nat → Int32} {w : Nat} {x : Int32} (h : tkA n b w = x) (h1 : ¬ x = 1) (h2 : ¬ x = 97) : letN n b w = 0 := by
  refine Decidable.byContradiction fun h9 => ?_
  unfold tkA at h
  rw [if_pos (by omega)] at h
  split at h
  · exact h1 h.symm
  · exact h2 h.symm
theorem tkA_97 {n : Nat} {b : Nat → Int32} {w : Nat} (h : tkA n b w = 97) : 0 < letN n b w ∧ letN n b w ≤ 8 := by
  unfold tkA at h
  split at h
  · split at h
    · exact absurd h (by decide)
    · omega
  · exact absurd h tkB_97
/-- a level's end -/
theorem fm_cl {n : Nat} {t : Nat → Int32} {w dp : Nat} {b : Bool} {s : sg} (hen : gEn s = false) (hlv : gLv s = dp + 1) (hbg : gBg s = true) (hop : gOp s (dp + 1) = b) (hw : wdT n t w = clB b) : w < n ∧ nx n t w = w + 1 ∧ fmR n t w s = fmR n t (w + 1) (aPc (gAl (cLv b s) (dp + 1)) (dLv (cLv b s))) := by
  obtain ⟨h1, h2⟩ := wd_lt hw (by cases b <;> decide)
  have h3 : letN n t w = 0 := tkA_l0 h2 (by cases b <;> decide) (by cases b <;> decide)
  refine ⟨h1, by unfold nx; rw [if_pos h1, h3]; rfl, ?_⟩
  have h4 := fm_s (s := s) h1 (s' := aPc (gAl (cLv b s) (dp + 1)) (dLv (cLv b s))) (by
    rw [h2, stT_K (K' := 0) (by cases b <;> decide), stT_c hen, if_pos ⟨by omega, hbg, by rw [hlv]; exact hop⟩, hlv])
  rw [h3] at h4
  exact h4
theorem fm_nc {n : Nat} {t : Nat → Int32} {w dp : Nat} {b : Bool} {s : sg} (hwn : w ≤ n) (hwh : w < n → ¬ isWh (t w)) (hen : gEn s = false) (hlv : gLv s = dp + 1) (hop : gOp s (dp + 1) = b) (h1 : ¬ pcT n t w) (h2 : ¬ wdT n t w = 124) (hw : ¬ wdT n t w = clB b) : fmR n t w s = .inl w := by
  refine fm_n hwn hen fun h9 => ?_
  have e : wdT n t w = tkA n t w := if_pos h9
  unfold pcT at h1
  rw [e] at h1 h2 hw
  unfold stT
  rw [if_neg (tk_nw (hwh h9)), if_neg (by rw [hen]; decide), if_neg (fun h8 => h1 (Or.inl h8)), if_neg (fun h8 => h1 (by rcases h8 with h8 | h8 <;> simp [h8])), if_neg h2]
  split
  · rename_i h8
    rw [if_neg]
    rintro ⟨_, _, h7⟩
    rw [hlv, hop] at h7
    apply hw
    unfold clB
    rcases h8 with h8 | h8
    · rw [h8] at h7
      rw [h7, h8]
      rfl
    · rw [h8] at h7
      rw [h7, h8]
      rfl
  · split
    · rw [if_neg (by omega)]
    · rfl
/-- a level's begin -/
theorem fm_op {n : Nat} {t : Nat → Int32} {w : Nat} {b : Bool} {s : sg} (hen : gEn s = false) (hlv : gLv s < 4) (hw : wdT n t w = opB b) : w < n ∧ nx n t w = w + 1 ∧ fmR n t w s = fmR n t (w + 1) (sLev (gLv s + 1) b s) := by
  obtain ⟨h1, h2⟩ := wd_lt hw (by cases b <;> decide)
  have h3 : letN n t w = 0 := tkA_l0 h2 (by cases b <;> decide) (by cases b <;> decide)
  refine ⟨h1, by unfold nx; rw [if_pos h1, h3]; rfl, ?_⟩
  have h4 := fm_s (s := s) h1 (s' := sLev (gLv s + 1) b s) (by rw [h2, stT_K (K' := 0) (by cases b <;> decide), stT_o hen, if_pos hlv])
  rw [h3] at h4
  exact h4
theorem cur_19 {n w : Nat} {b : Nat → Int32} {I J : Nat → Nat → Int32} (h : tpR n b I) (h20 : I 65 20 = -1) (ht : tokAt n b w J) (hf : fr19 I J) : curT n b w J := ⟨ht, (hf.2 20 (by omega)).trans h20, tpR_fr h hf⟩
/-- a level that came back -/
theorem sgQ_cl {s s3 : sg} {b : Bool} {dp : Nat} (hlv : gLv s = dp) (h : sgQ (sLev (dp + 1) b s) s3) : sgQ s (dLv (cLv b s3)) ∧ gRw (dLv (cLv b s3)) dp = gRw s dp ∧ gAl (dLv (cLv b s3)) dp = gAl s dp ∧ gOp s3 (dp + 1) = b ∧ gLv s3 = dp + 1 ∧ gEn s3 = gEn s := by
  obtain ⟨a1, a2, a3, a4, a5⟩ := h
  obtain ⟨k1, k2, k3, k4, k5, k6, k7⟩ := cLv_K b s3
  have b1 : gLv s3 = dp + 1 := a1
  have b3 : ∀ j, j ≤ dp + 1 → gOp s3 j = upD (gOp s) (dp + 1) b j := a3
  have b4 : ∀ j, j < dp + 1 → gRw s3 j = upD (gRw s) (dp + 1) [0] j ∧ gAl s3 j = upD (gAl s) (dp + 1) [] j := a4
  have c4 : ∀ j, j < dp + 1 → gRw (cLv b s3) j = gRw s j ∧ gAl (cLv b s3) j = gAl s j := fun j hj => by
    rw [k5, k6 j (by omega), (b4 j hj).1, (b4 j hj).2, upD_ne (by omega), upD_ne (by omega)]
    exact ⟨rfl, rfl⟩
  have c3 : ∀ j, j ≤ dp → gOp (cLv b s3) j = gOp s j := fun j hj => by
    rw [k4, b3 j (by omega), upD_ne (by omega)]
  refine ⟨⟨?_, k3.trans a2, fun j hj => c3 j (by omega), fun j hj => c4 j (by omega), fun e => ?_⟩, (c4 dp (by omega)).1, (c4 dp (by omega)).2, ?_, b1, a2⟩
  · show gLv (cLv b s3) - 1 = gLv s
    rw [k1, b1, hlv]; rfl
  · have e2 : gSp s3 = true := a5 e
    have e3 := k7 e2
    show gSp (cLv b s3) = true
    rw [e3]; exact e2
  · rw [b3 _ (Nat.le_refl _), upD_at]
theorem cLv_f {s : sg} : cLv false s = eRow s := by unfold cLv oPt; rw [if_neg (by decide)]
theorem cLv_sp {s : sg} {b : Bool} (h : gSp (eRow s) = true) : cLv b s = eRow s := by
  unfold cLv oPt
  cases b
  · rw [if_neg (by decide)]
  · rw [if_pos rfl, if_pos h]
theorem cLv_t {s : sg} (h : gSp (eRow s) = false) : cLv true s = oSt wAl (eRow s) (addI ins 200 [some 0] (gAl (eRow s) (gLv (eRow s)))) := by
  unfold cLv oPt
  rw [if_pos rfl, if_neg (by rw [h]; decide), addI1]
theorem l_X12_pieceW {d z : Nat} {N : Nat → Nat} {I : Nat → Nat → Int32} {L : Nat → Nat → Int64} {R : Nat → Nat → Option Nat} {Q : qP} {n a w dp : Nat} {b : Nat → Int32} {s : sg} {I0 : Nat → Nat → Int32} (ha : a + 202 < 4000) (hcu : curT n b w I0) (hen : gEn s = false) (hbk : bnS I0 a (gSp s) [] 0) (hw97 : wdT n b w = 97) (hg : ∀ I' w', frP I0 I' a → curT n b w' I' → w < w' → fmR n b w s = fmR n b w' (aPc [(wKey b w (letN n b w))] s) → bnS I' a (gSp s) [(wKey b w (letN n b w))] 0 → (gSp s = true → I' 65 15 = nI a) → Q none (z, N, I', L, R)) : ∀ (q k : Nat) (I1 : Nat → Nat → Int32), k + q = letN n b w → (∀ c, c ≠ 72 → c ≠ 73 → I1 c = I0 c) → I1 73 a = nI (letN n b w) → (∀ y, y ≠ a → I1 73 y = I0 73 y) → (∀ j, j < k → I1 72 (24 * a + j) = nI (dg (wKey b w (letN n b w)) j - 1)) → (∀ c, (c < 24 * a ∨ 24 * a + 24 ≤ c) → I1 72 c = I0 72 c) → qJ m_X12_piece (qWP (d + 6)) Q 24 [(2, .int (nI k)), (1, .int (nI dp)), (0, .ref 65)] [] 0 0 (z, N, I1, L, R) := by
  refine nat_ind fun q ih => ?_
  intro k I1 hkq f1 f2 f3 f4 f5
  obtain ⟨hwn, htk⟩ := wd_lt hw97 (by decide)
  obtain ⟨hm0, hm8⟩ := tkA_97 htk
  have hlt := let_at (n := n) (b := b) (n - w) w rfl
  have h200 := hcu.2.2.2.1
  have h65 : I1 65 = I0 65 := f1 65 (by decide) (by decide)
  have b15 : I1 65 15 = nI a := by rw [h65]; exact bnS_0 hbk
  have b17 : I1 65 17 = nI w := by rw [h65]; exact hcu.1.2.2.1
  have b18 : I1 65 18 = nI (letN n b w) := by rw [h65]; exact hcu.1.2.2.2.2.1 hm0
  have b21 : I1 65 21 = bI (gSp s) := by rw [h65]; exact hbk.1
  have hvK := wKey_v (b := b) (p := w) (m := letN n b w) (by omega) (fun k hk => (hlt.2 k hk).2)
  have eix : 24 * I1 65 15 + nI k = nI (24 * a + k) := by rw [b15, ix24]
  have ewk : I1 65 17 + nI k = nI (w + k) := by rw [b17, nI_add]
  have hfr1 : frP I0 I1 a := ⟨fun c c1 c2 c3 => f1 c c2 c3, fun j _ => by rw [h65], fun y hy => ⟨f3 y (by omega), fun j hj => f5 _ (by omega)⟩⟩
  refine qJ_run (qWP_mono _) [24] 400 ?_
  refine ⟨fun (c1 : (I1 65 18) ≤ (nI k)) => ?_, fun (c1 : ¬ (I1 65 18) ≤ (nI k)) => ?_⟩
  · have hk2 : ¬ k < letN n b w := fun h9 => by
      have c9 := c1
      rw [b18, nI_leI (by omega) (by omega)] at c9
      omega
    refine ⟨fun (c2 : ¬ (I1 65 21) = 0) => ?_, fun (c2 : (I1 65 21) = 0) => ?_⟩
    · have hsp : gSp s = true := by
        have c9 := c2
        rw [b21] at c9
        cases e : gSp s with
        | true => rfl
        | false => rw [e] at c9; exact absurd rfl c9
      refine ⟨⟨Nat.le_refl _, Nat.le_refl _⟩, ?_⟩
      obtain rfl : k = letN n b w := by omega
      have eKl : ([(wKey b w (letN n b w))] : List Nat).length = 1 := rfl
      have hfr : frP I0 I1 a := hfr1
      have hnx : I1 65 19 = nI (w + letN n b w) := by
        rw [h65, hcu.1.2.2.2.2.2]
        unfold nx
        rw [if_pos hwn]
        congr 1
        omega
      refine c_X12_token (d := d + 3) (n := n) (p := w + letN n b w) (b := b) (fun I3 w3 t1 t2 t3 t4 => ?_) (tpR_P hcu.2.2 hfr) hnx (by omega)
      change Q none (z, N, I3, L, R)
      replace t2 : fr19 I1 I3 := t2
      have h4 := (fm_s hwn (tk_ws (K := (wKey b w (letN n b w))) hm0 hen hm8)).trans ((by rw [show max 1 (letN n b w) = letN n b w by omega] : fmR n b (w + max 1 (letN n b w)) _ = fmR n b (w + letN n b w) _).trans (t3 (aPc [(wKey b w (letN n b w))] s)))
      have h20 : I1 65 20 = -1 := by rw [h65]; exact hcu.2.1
      refine hg I3 w3 (frP_t hfr (frP_19 t2) (Nat.le_refl _)) (cur_19 (tpR_P hcu.2.2 hfr) h20 t1 t2) (by omega) h4 ?_ ?_
      · refine ⟨(t2.2 21 (by omega)).trans b21, fun e => absurd (e.symm.trans hsp) (by decide), fun _ => ⟨0, Nat.le_refl _, (t2.2 15 (by omega)).trans b15⟩⟩
      · exact fun _ => (t2.2 15 (by omega)).trans b15
    · have hsp : gSp s = false := by
        have c9 := c2
        rw [b21] at c9
        exact bI_1.mp c9
      refine ⟨⟨Nat.le_refl _, Nat.le_refl _⟩, ?_⟩
      obtain rfl : k = letN n b w := by omega
      have eKl : ([(wKey b w (letN n b w))] : List Nat).length = 1 := rfl
      have hfr : frP I0 (q2 I1 65 15 (I1 65 15 + 1)) a := frP_s hfr1 (by decide)
      have hnx : (q2 I1 65 15 (I1 65 15 + 1)) 65 19 = nI (w + letN n b w) := by
        rw [q2_nj (by decide), h65, hcu.1.2.2.2.2.2]
        unfold nx
        rw [if_pos hwn]
        congr 1
        omega
      refine c_X12_token (d := d + 3) (n := n) (p := w + letN n b w) (b := b) (fun I3 w3 t1 t2 t3 t4 => ?_) (tpR_P hcu.2.2 hfr) hnx (by omega)
      change Q none (z, N, I3, L, R)
      replace t2 : fr19 (q2 I1 65 15 (I1 65 15 + 1)) I3 := t2
      have h4 := (fm_s hwn (tk_ws (K := (wKey b w (letN n b w))) hm0 hen hm8)).trans ((by rw [show max 1 (letN n b w) = letN n b w by omega] : fmR n b (w + max 1 (letN n b w)) _ = fmR n b (w + letN n b w) _).trans (t3 (aPc [(wKey b w (letN n b w))] s)))
      have h20 : (q2 I1 65 15 (I1 65 15 + 1)) 65 20 = -1 := by rw [q2_nj (by decide), h65]; exact hcu.2.1
      refine hg I3 w3 (frP_t hfr (frP_19 t2) (Nat.le_refl _)) (cur_19 (tpR_P hcu.2.2 hfr) h20 t1 t2) (by omega) h4 ?_ ?_
      · refine ⟨(t2.2 21 (by omega)).trans ((q2_nj (by decide)).trans b21), fun _ => ⟨fun i hi => ?_, (t2.2 15 (by omega)).trans (q2_at.trans (by rw [b15, nI_1]; rfl)), by simp⟩, fun e => absurd (e.symm.trans hsp) (by decide)⟩
        obtain rfl : i = 0 := by simpa using hi
        refine enR_s (I := I1) ⟨_, hvK, f2, f4⟩ (sameE_t (by unfold sameE; rw [q2_ne (by decide), q2_ne (by decide)]; exact ⟨rfl, fun _ _ => rfl⟩) (fr19_E t2))
      · exact fun e => absurd (e.symm.trans hsp) (by decide)
  · have hk2 : k < letN n b w := by
      refine Decidable.byContradiction fun h9 => c1 ?_
      rw [b18]
      exact nI_le (by omega) (by omega)
    refine ⟨?_, ?_⟩
    · show vp_in ((I1 65 17) + (nI k)) 200
      rw [ewk]
      exact vp_in_nI (by omega) (by decide)
    refine ⟨?_, ?_⟩
    · show vp_in ((24 * (I1 65 15)) + (nI k)) 96000
      rw [eix]
      exact vp_in_nI (by omega) (by decide)
    change qJ m_X12_piece (qWP _) Q 24 [(2, .int ((nI k) + 1)), (1, .int (nI dp)), (0, .ref 65)] [] _ _ (z, N, q2 I1 72 (((24 * (I1 65 15)) + (nI k)).toNatClampNeg) ((I1 69 (((I1 65 17) + (nI k)).toNatClampNeg)) - 96), L, R)
    obtain ⟨p, rfl⟩ : ∃ p, q = p + 1 := ⟨q - 1, by omega⟩
    have hlk := hlt.2 k hk2
    have g1 := Int32.le_iff_toInt_le.mp hlk.2.1
    have g2 := Int32.le_iff_toInt_le.mp hlk.2.2
    rw [show (97 : Int32).toInt = 97 from rfl] at g1
    rw [show (122 : Int32).toInt = 122 from rfl] at g2
    have ebt : I1 69 (I1 65 17 + nI k).toNatClampNeg - 96 = nI (dg (wKey b w (letN n b w)) k - 1) := by
      rw [ewk, nI_clamp (by omega), f1 69 (by decide) (by decide), hcu.2.2.2.2 _ hlk.1, wKey_d (by omega), if_pos hk2]
      have e0 : (b (w + k) - 96).toInt = (b (w + k)).toInt - 96 := ti_sub (by rw [show (96 : Int32).toInt = 96 from rfl]; omega)
      exact Int32.toInt_inj.mp (by rw [e0, nI_toInt (by omega)]; omega)
    rw [ebt, eix, nI_clamp (by omega), nI_1]
    refine ih p rfl (k + 1) _ (by omega) (fun c c1 c2 => by rw [q2_ne c1]; exact f1 c c1 c2) (by rw [q2_ne (by decide)]; exact f2) (fun y hy => by rw [q2_ne (by decide)]; exact f3 y hy) (fun j hj => ?_) (fun c hc => by rw [q2_nj (by omega)]; exact f5 c hc)
    by_cases e : j = k
    · rw [e, q2_at]
    · rw [q2_nj (by omega)]; exact f4 j (by omega)
/-! formulas: the reference's piece, all of it -/
theorem qWP_e {k k' i : Nat} {as : List Value} {M : qM} {Q : qP} (h : k = k') (hq : qWP k' i as M Q) : qWP k i as M Q := h ▸ hq
/-- both add alike -/
theorem add_two {is js : List (Option Nat)} {l m : List Nat} (hi : ∀ x, x ∈ is ↔ x ∈ js) (hp : l.Perm m) (ok : okS l) (hs : srt l) (hv : ∀ K, some K ∈ is → ∃ n, vK K n) : (∃ x y, addI ins 200 is l = some x ∧ addI apF 200 js m = some y ∧ x.Perm y ∧ okS x ∧ srt x) ∨ (addI ins 200 is l = none ∧ addI apF 200 js m = none) := by
  rcases addI_rel pc_ins pc_apF (r := 200) hi hp ok.1 (srt_nd hs) with ⟨x, y, h1, h2, h3, _, _⟩ | h
  · exact Or.inl ⟨x, y, h1, h2, h3, okS_add h1 ok hv, srt_addI _ _ hs h1⟩
  · exact Or.inr h
theorem c_X12_piece {d z : Nat} {N : Nat → Nat} {I : Nat → Nat → Int32} {L : Nat → Nat → Int64} {R : Nat → Nat → Option Nat} {Q : qP} {n a w dp j : Nat} {b : Nat → Int32} {s : sg} (hj : dp + j = 4) (hA : ∀ j', j = j' + 1 → OKall d z N L R n b j' (dp + 1)) (ha : a + 202 + 600 * j < 4000) (hcu : curT n b w I) (hlv : gLv s = dp) (hen : gEn s = false) (hst2 : gBg s = false ∨ pcT n b w) (hbk : bnS I a (gSp s) [] 0) (hf : ∀ I' f sp m, frP I I' a → I' 65 20 = nI f → f ≤ n → fmR n b w s = .inl f → bnS I' a sp m 200 → (gSp s = true → sp = true ∧ I' 65 15 = nI a) → Q none (z, N, I', L, R)) (hg : ∀ I' w' P P' s1, frP I I' a → curT n b w' I' → w < w' → fmR n b w s = fmR n b w' (aPc P s1) → sgQ s s1 → gRw s1 dp = gRw s dp → gAl s1 dp = gAl s dp → (gSp s1 = false → P.Perm P' ∧ okS P ∧ srt P) → bnS I' a (gSp s1) P' 200 → (gSp s = true → I' 65 15 = nI a) → Q none (z, N, I', L, R)) : qWP (d + 3 * j + 7) 191 [.ref 65, .int (nI dp)] (z, N, I, L, R) Q := by
  have h16 : I 65 16 = wdT n b w := hcu.1.2.2.2.1
  have h15 : I 65 15 = nI a := bnS_0 hbk
  have h17 : I 65 17 = nI w := hcu.1.2.2.1
  have hwn := hcu.1.1
  have h200 := hcu.2.2.2.1
  refine qWP_of m_X12_piece rfl rfl [(0, .ref 65), (1, .int (nI dp))] rfl ?_
  refine qJ_run (qWP_mono _) [24, 200] 400 ?_
  refine ⟨fun (c1 : ¬ (I 65 16) = 97) => ?_, fun (c1 : (I 65 16) = 97) => ?_⟩
  · have hw97 : ¬ wdT n b w = 97 := by rw [← h16]; exact c1
    refine ⟨fun (c2 : ¬ (I 65 16) = 91) => ?_, fun (c2 : (I 65 16) = 91) => ?_⟩
    · have h91 : ¬ wdT n b w = 91 := by rw [← h16]; exact c2
      refine ⟨fun (c3 : (I 65 16) = 40) => ?_, fun (c3 : ¬ (I 65 16) = 40) => ?_⟩
      · have h40 : wdT n b w = 40 := by rw [← h16]; exact c3
        refine ⟨fun (c4 : ¬ (nI dp) = 4) => ?_, fun (c4 : (nI dp) = 4) => ?_⟩
        · have h4 : ¬ dp = 4 := fun h9 => c4 (by rw [h9]; rfl)
          refine ⟨⟨Nat.le_refl _, Nat.le_refl _⟩, ?_⟩
          obtain ⟨o1, o2, o3⟩ := fm_op (t := b) (w := w) (b := false) hen (show gLv s < 4 by omega) h40
          rw [hlv] at o3
          refine c_X12_token (d := d + 3 * j + 3) (n := n) (p := w + 1) (b := b) (fun I1 w1 t1 t2 t3 t4 => ?_) hcu.2.2 (by rw [hcu.1.2.2.2.2.2, o2]) (by omega)
          refine ⟨⟨Nat.le_refl _, Nat.le_refl _⟩, ?_⟩
          refine qWP_as (as' := [.ref 65, .int (nI (dp + 1))]) (show [Value.ref 65, .int (nI dp + 1)] = _ by rw [nI_1]) ?_
          refine qWP_e (show d + 3 * j + 6 = d + 3 * (j - 1) + 9 by omega) ?_
          refine hA (j - 1) (by omega) _ I1 a w1 (sLev (dp + 1) false s) (by omega) (cur_19 hcu.2.2 hcu.2.1 t1 t2) rfl hen rfl upD_at upD_at (bnS_19 hbk t2) (fun I2 f sp m k1 k2 k3 k4 k5 k6 => ?_) (fun I2 w2 m2 s3 a1 hc2 a3 a4 a5 a6 a7 a8 a9 a10 a11 => ?_)
          · refine br_f (show ¬ (I2 65 20) < 0 from by rw [k2]; exact nI_pos (by omega)) ?_
            change Q none (z, N, I2, L, R)
            exact hf I2 f sp m (frP_t (frP_19 t2) k1 (Nat.le_refl _)) k2 k3 (o3.trans ((t3 _).trans k4)) k5 k6
          · have hw2n := hc2.1.1
            refine br_t (show (I2 65 20) < 0 from by rw [hc2.2.1]; decide) ?_
            refine ⟨fun _ => ?_, fun h => absurd h (by decide)⟩
            refine ⟨fun (c7 : (I2 65 16) = 41) => ?_, fun (c7 : ¬ (I2 65 16) = 41) => ?_⟩
            · have hcl : wdT n b w2 = clB false := by rw [← hc2.1.2.2.2.1]; exact c7
              refine ⟨⟨Nat.le_refl _, Nat.le_refl _⟩, ?_⟩
              obtain ⟨y1, y2, y3, y4, y5, y6⟩ := sgQ_cl hlv a5
              obtain ⟨o4, o5, o6⟩ := fm_cl (b := false) (y6.trans hen) y5 a6 y4 hcl
              refine c_X12_token (d := d + 3 * j + 3) (n := n) (p := w2 + 1) (b := b) (fun I3 w3 t1b t2b t3b t4b => ?_) hc2.2.2 (by rw [hc2.1.2.2.2.2.2, o5]) (by omega)
              have hfm : fmR n b w s = fmR n b w3 (aPc (gAl (cLv false s3) (dp + 1)) (dLv (cLv false s3))) := o3.trans ((t3 _).trans (a4.trans (o6.trans (t3b _))))
              have hcu3 : curT n b w3 I3 := cur_19 hc2.2.2 hc2.2.1 t1b t2b
              have hfrp : frP I I3 a := frP_t (frP_t (frP_19 t2) a1 (Nat.le_refl _)) (frP_19 t2b) (Nat.le_refl _)
              refine ⟨fun _ => ?_, fun h => absurd h (by decide)⟩
              change Q none (z, N, I3, L, R)
              have e9 : cLv false s3 = eRow s3 := cLv_f
              refine hg I3 w3 (gAl (cLv false s3) (dp + 1)) m2 (dLv (cLv false s3)) hfrp hcu3 (by omega) hfm y1 y2 y3 ?_ ?_ ?_
              · rw [e9]; exact a9
              · rw [e9]; exact bnS_19 a10 t2b
              · exact fun e => (t2b.2 15 (by omega)).trans (a11 e)
            · have hcl : ¬ wdT n b w2 = clB false := by rw [← hc2.1.2.2.2.1]; exact c7
              refine ⟨⟨Nat.le_refl _, Nat.le_refl _⟩, ?_⟩
              refine c_X12_faults (d := d + 3 * j + 5) (fun h9 => absurd h9 (by rw [hc2.2.1]; decide)) (fun _ => ?_)
              change Q none (z, N, q2 I2 65 20 (I2 65 17), L, R)
              obtain ⟨y1, y2, y3, y4, y5, y6⟩ := sgQ_cl hlv a5
              refine hf _ w2 (gSp (eRow s3)) m2 (frP_s (frP_t (frP_19 t2) a1 (Nat.le_refl _)) (by decide)) (by rw [q2_at]; exact hc2.1.2.2.1) hc2.1.1 (o3.trans ((t3 _).trans (a4.trans (fm_nc (b := false) hc2.1.1 hc2.1.2.1 (y6.trans hen) y5 y4 a7 a8 hcl)))) ?_ (fun e => ⟨by
                have := a5.2.2.2.2 e
                rw [(eRow_K s3).2.2.2.2.2.2 this]; exact this, (q2_nj (by decide)).trans (a11 e)⟩)
              exact bnS_E a10 (q2_nj (by decide)) (q2_nj (by decide)) (fun y => by unfold sameE; rw [q2_ne (by decide), q2_ne (by decide)]; exact ⟨rfl, fun _ _ => rfl⟩)
        · have h4 : dp = 4 := (nI_eq (b := 4) (by omega) (by omega)).mp c4
          refine ⟨⟨Nat.le_refl _, Nat.le_refl _⟩, ?_⟩
          refine c_X12_faults (d := d + 3 * j + 5) (fun h9 => absurd h9 (by rw [hcu.2.1]; decide)) (fun _ => ?_)
          change Q none (z, N, q2 I 65 20 (I 65 17), L, R)
          exact hf _ w (gSp s) [] (frP_s frP_r (by decide)) (by rw [q2_at]; exact h17) hwn (fm_dp hwn hcu.1.2.1 hen (by rw [hlv]; exact h4) (by first | exact Or.inl h40 | exact Or.inr h91)) (bnS_m (bnS_E hbk (q2_nj (by decide)) (q2_nj (by decide)) (fun y => by unfold sameE; rw [q2_ne (by decide), q2_ne (by decide)]; exact ⟨rfl, fun _ _ => rfl⟩)) (by decide)) (fun e => ⟨e, (q2_nj (by decide)).trans h15⟩)
      · have h40 : ¬ wdT n b w = 40 := by rw [← h16]; exact c3
        refine ⟨fun _ => ?_, fun h => absurd h (by decide)⟩
        refine ⟨⟨Nat.le_refl _, Nat.le_refl _⟩, ?_⟩
        refine c_X12_faults (d := d + 3 * j + 5) (fun h9 => absurd h9 (by rw [hcu.2.1]; decide)) (fun _ => ?_)
        change Q none (z, N, q2 I 65 20 (I 65 17), L, R)
        have hnp : ¬ pcT n b w := fun h9 => by rcases h9 with h8 | h8 | h8 <;> contradiction
        exact hf _ w (gSp s) [] (frP_s frP_r (by decide)) (by rw [q2_at]; exact h17) hwn (fm_np hwn hcu.1.2.1 hen (hst2.resolve_right hnp) hnp) (bnS_m (bnS_E hbk (q2_nj (by decide)) (q2_nj (by decide)) (fun y => by unfold sameE; rw [q2_ne (by decide), q2_ne (by decide)]; exact ⟨rfl, fun _ _ => rfl⟩)) (by decide)) (fun e => ⟨e, (q2_nj (by decide)).trans h15⟩)
    · have h91 : wdT n b w = 91 := by rw [← h16]; exact c2
      refine br_f (show ¬ (I 65 16) = 40 from by rw [h16, h91]; decide) ?_
      refine ⟨fun h => absurd h (by decide), fun _ => ?_⟩
      refine ⟨fun (c9 : ¬ (nI dp) = 4) => ?_, fun (c9 : (nI dp) = 4) => ?_⟩
      · have h4 : ¬ dp = 4 := fun h9 => c9 (by rw [h9]; rfl)
        refine ⟨⟨Nat.le_refl _, Nat.le_refl _⟩, ?_⟩
        obtain ⟨o1, o2, o3⟩ := fm_op (t := b) (w := w) (b := true) hen (show gLv s < 4 by omega) h91
        rw [hlv] at o3
        refine c_X12_token (d := d + 3 * j + 3) (n := n) (p := w + 1) (b := b) (fun I1 w1 t1 t2 t3 t4 => ?_) hcu.2.2 (by rw [hcu.1.2.2.2.2.2, o2]) (by omega)
        refine ⟨⟨Nat.le_refl _, Nat.le_refl _⟩, ?_⟩
        refine qWP_as (as' := [.ref 65, .int (nI (dp + 1))]) (show [Value.ref 65, .int (nI dp + 1)] = _ by rw [nI_1]) ?_
        refine qWP_e (show d + 3 * j + 6 = d + 3 * (j - 1) + 9 by omega) ?_
        refine hA (j - 1) (by omega) _ I1 a w1 (sLev (dp + 1) true s) (by omega) (cur_19 hcu.2.2 hcu.2.1 t1 t2) rfl hen rfl upD_at upD_at (bnS_19 hbk t2) (fun I2 f sp m k1 k2 k3 k4 k5 k6 => ?_) (fun I2 w2 m2 s3 a1 hc2 a3 a4 a5 a6 a7 a8 a9 a10 a11 => ?_)
        · refine br_f (show ¬ (I2 65 20) < 0 from by rw [k2]; exact nI_pos (by omega)) ?_
          change Q none (z, N, I2, L, R)
          exact hf I2 f sp m (frP_t (frP_19 t2) k1 (Nat.le_refl _)) k2 k3 (o3.trans ((t3 _).trans k4)) k5 k6
        · have hw2n := hc2.1.1
          refine br_t (show (I2 65 20) < 0 from by rw [hc2.2.1]; decide) ?_
          refine ⟨fun h => absurd h (by decide), fun _ => ?_⟩
          refine ⟨fun (c12 : (I2 65 16) = 93) => ?_, fun (c12 : ¬ (I2 65 16) = 93) => ?_⟩
          · have hcl : wdT n b w2 = clB true := by rw [← hc2.1.2.2.2.1]; exact c12
            refine ⟨⟨Nat.le_refl _, Nat.le_refl _⟩, ?_⟩
            obtain ⟨y1, y2, y3, y4, y5, y6⟩ := sgQ_cl hlv a5
            obtain ⟨o4, o5, o6⟩ := fm_cl (b := true) (y6.trans hen) y5 a6 y4 hcl
            refine c_X12_token (d := d + 3 * j + 3) (n := n) (p := w2 + 1) (b := b) (fun I3 w3 t1b t2b t3b t4b => ?_) hc2.2.2 (by rw [hc2.1.2.2.2.2.2, o5]) (by omega)
            have hfm : fmR n b w s = fmR n b w3 (aPc (gAl (cLv true s3) (dp + 1)) (dLv (cLv true s3))) := o3.trans ((t3 _).trans (a4.trans (o6.trans (t3b _))))
            have hcu3 : curT n b w3 I3 := cur_19 hc2.2.2 hc2.2.1 t1b t2b
            have hfrp : frP I I3 a := frP_t (frP_t (frP_19 t2) a1 (Nat.le_refl _)) (frP_19 t2b) (Nat.le_refl _)
            refine ⟨fun h => absurd h (by decide), fun _ => ?_⟩
            refine ⟨fun (c13 : (I3 65 21) = 0) => ?_, fun (c13 : ¬ (I3 65 21) = 0) => ?_⟩
            · have hs3 : gSp (eRow s3) = false := by
                have c9 := c13
                rw [t2b.2 21 (by omega), a10.1] at c9
                exact bI_1.mp c9
              refine ⟨?_, ?_⟩
              · show vp_in (I3 65 15) 4000
                rw [show I3 65 15 = nI (a + m2.length) from (t2b.2 15 (by omega)).trans (a10.2.1 hs3).2.1]
                exact vp_in_nI (by have := (a10.2.1 hs3).2.2; omega) (by decide)
              change qJ m_X12_piece (qWP _) Q 200 [(3, .int (I 65 15)), (2, .int 1), (0, .ref 65), (1, .int (nI dp))] [.ref 65] _ _ (z, N, q2 I3 73 ((I3 65 15).toNatClampNeg) 0, L, R)
              refine qJ_run (qWP_mono _) [24, 200] 400 ?_
              refine ⟨⟨Nat.le_refl _, Nat.le_refl _⟩, ?_⟩
              have b15 : I3 65 15 = nI (a + m2.length) := (t2b.2 15 (by omega)).trans (a10.2.1 hs3).2.1
              have hm2 := (a10.2.1 hs3).2.2
              obtain ⟨I4, e4⟩ : ∃ I4, I4 = q2 I3 73 (I3 65 15).toNatClampNeg 0 := ⟨_, rfl⟩
              rw [← e4]
              rw [b15, nI_clamp (by omega)] at e4
              have c4 : cpF I3 I4 (a + m2.length) := by
                subst e4
                refine ⟨fun c c1 c2 => q2_ne c2, fun y hy => ?_⟩
                unfold sameE
                rw [q2_nj hy, q2_ne (by decide)]
                exact ⟨rfl, fun _ _ => rfl⟩
              have k4 : enR I4 (a + m2.length) 0 := ⟨0, vK_0, by subst e4; exact q2_at, fun i hi => absurd hi (by omega)⟩
              have s4 : segR I4 a m2 := segR_s (segR_s (a10.2.1 hs3).1 (fun i _ => fr19_E t2b)) (fun i hi => c4.2 _ (by omega))
              have f4 : frJ I3 I4 a := cpF_J c4 (by omega)
              have rel := add_two (is := [some 0]) (js := [some 0]) (fun _ => Iff.rfl) (a9 hs3).1 (a9 hs3).2.1 (a9 hs3).2.2 (fun K hK => by
                obtain rfl : K = 0 := by simpa using hK
                exact ⟨0, vK_0⟩)
              refine qWP_as (as' := [.ref 65, .int (nI a)]) (show [Value.ref 65, .int (I 65 15)] = _ by rw [h15]) ?_
              refine c_X12_keeps (d := d + 3 * j + 3) (a := a) (K := 0) (m := m2) hm2 (by omega) (by rw [c4.1 65 (by decide) (by decide)]; exact b15) s4 k4 (fun ea I5 g1 g2 g3 => ?_) (fun m5 I5 ea g1 g2 g3 g4 => ?_)
              · change Q none (z, N, I5, L, R)
                have eL : gLv (eRow s3) = dp + 1 := (eRow_K s3).1.trans y5
                have e20 : frJ I3 I5 a := frJ_t f4 (frK_J g1) (Nat.le_refl _)
                have hcu5 : curT n b w3 I5 := ⟨⟨t1b.1, t1b.2.1, (e20.2.1 17 (by decide) (by decide)).trans t1b.2.2.1, (e20.2.1 16 (by decide) (by decide)).trans t1b.2.2.2.1, fun h9 => (e20.2.1 18 (by decide) (by decide)).trans (t1b.2.2.2.2.1 h9), (e20.2.1 19 (by decide) (by decide)).trans t1b.2.2.2.2.2⟩, (e20.2.1 20 (by decide) (by decide)).trans hcu3.2.1, tpR_P hcu3.2.2 (frP_J e20)⟩
                rcases rel with ⟨x, y, r1, r2, _⟩ | ⟨r1, r2⟩
                · rw [addI1, ea] at r2; exact absurd r2 (by simp)
                · have e9 : cLv true s3 = wSp (eRow s3) := by rw [cLv_t hs3, eL, r1]; rfl
                  refine hg I5 w3 (gAl (cLv true s3) (dp + 1)) [] (dLv (cLv true s3)) (frP_t hfrp (frP_J e20) (Nat.le_refl _)) hcu5 (by omega) hfm y1 y2 y3 ?_ ?_ ?_
                  · rw [e9]; exact fun e => absurd e (by simp [wSp, dLv])
                  · rw [e9]; exact bnS_i g3 g2
                  · exact fun _ => g2
              · change Q none (z, N, I5, L, R)
                have eL : gLv (eRow s3) = dp + 1 := (eRow_K s3).1.trans y5
                have e20 : frJ I3 I5 a := frJ_t f4 (frK_J g1) (Nat.le_refl _)
                have hcu5 : curT n b w3 I5 := ⟨⟨t1b.1, t1b.2.1, (e20.2.1 17 (by decide) (by decide)).trans t1b.2.2.1, (e20.2.1 16 (by decide) (by decide)).trans t1b.2.2.2.1, fun h9 => (e20.2.1 18 (by decide) (by decide)).trans (t1b.2.2.2.2.1 h9), (e20.2.1 19 (by decide) (by decide)).trans t1b.2.2.2.2.2⟩, (e20.2.1 20 (by decide) (by decide)).trans hcu3.2.1, tpR_P hcu3.2.2 (frP_J e20)⟩
                rcases rel with ⟨x, y, r1, r2, r3, r4, r5⟩ | ⟨r1, r2⟩
                · rw [addI1, ea] at r2
                  obtain rfl := Option.some.inj r2
                  have e9 : cLv true s3 = wAl (eRow s3) x := by rw [cLv_t hs3, eL, r1]; rfl
                  have e8 : gAl (cLv true s3) (dp + 1) = x := by
                    rw [e9]
                    show upD (gAl (eRow s3)) (gLv (eRow s3)) x (dp + 1) = x
                    rw [eL, upD_at]
                  have e7 : gSp (dLv (cLv true s3)) = false := by rw [e9]; exact hs3
                  refine hg I5 w3 (gAl (cLv true s3) (dp + 1)) m5 (dLv (cLv true s3)) (frP_t hfrp (frP_J e20) (Nat.le_refl _)) hcu5 (by omega) hfm y1 y2 y3 ?_ ?_ ?_
                  · rw [e8]; exact fun _ => ⟨r3, r4, r5⟩
                  · rw [e7]
                    refine ⟨g3.trans ((c4.1 65 (by decide) (by decide) ▸ rfl : I4 65 21 = I3 65 21).trans ((t2b.2 21 (by omega)).trans (a10.1.trans (by rw [hs3])))), fun _ => ⟨g4, g2, addG_len pc_apF ea hm2⟩, fun e => absurd e (by decide)⟩
                  · exact fun e => by
                      have := a5.2.2.2.2 e
                      have h9 := (eRow_K s3).2.2.2.2.2.2 this
                      rw [h9, this] at hs3
                      exact absurd hs3 (by decide)
                · rw [addI1, ea] at r2; exact absurd r2 (by simp)
            · have hs3 : gSp (eRow s3) = true := by
                have c9 := c13
                rw [t2b.2 21 (by omega), a10.1] at c9
                cases e : gSp (eRow s3) with
                | true => rfl
                | false => rw [e] at c9; exact absurd rfl c9
              change Q none (z, N, I3, L, R)
              have e9 : cLv true s3 = eRow s3 := cLv_sp hs3
              refine hg I3 w3 (gAl (cLv true s3) (dp + 1)) m2 (dLv (cLv true s3)) hfrp hcu3 (by omega) hfm y1 y2 y3 ?_ ?_ ?_
              · rw [e9]; exact a9
              · rw [e9]; exact bnS_19 a10 t2b
              · exact fun e => (t2b.2 15 (by omega)).trans (a11 e)
          · have hcl : ¬ wdT n b w2 = clB true := by rw [← hc2.1.2.2.2.1]; exact c12
            refine ⟨⟨Nat.le_refl _, Nat.le_refl _⟩, ?_⟩
            refine c_X12_faults (d := d + 3 * j + 5) (fun h9 => absurd h9 (by rw [hc2.2.1]; decide)) (fun _ => ?_)
            change Q none (z, N, q2 I2 65 20 (I2 65 17), L, R)
            obtain ⟨y1, y2, y3, y4, y5, y6⟩ := sgQ_cl hlv a5
            refine hf _ w2 (gSp (eRow s3)) m2 (frP_s (frP_t (frP_19 t2) a1 (Nat.le_refl _)) (by decide)) (by rw [q2_at]; exact hc2.1.2.2.1) hc2.1.1 (o3.trans ((t3 _).trans (a4.trans (fm_nc (b := true) hc2.1.1 hc2.1.2.1 (y6.trans hen) y5 y4 a7 a8 hcl)))) ?_ (fun e => ⟨by
              have := a5.2.2.2.2 e
              rw [(eRow_K s3).2.2.2.2.2.2 this]; exact this, (q2_nj (by decide)).trans (a11 e)⟩)
            exact bnS_E a10 (q2_nj (by decide)) (q2_nj (by decide)) (fun y => by unfold sameE; rw [q2_ne (by decide), q2_ne (by decide)]; exact ⟨rfl, fun _ _ => rfl⟩)
      · have h4 : dp = 4 := (nI_eq (b := 4) (by omega) (by omega)).mp c9
        refine ⟨⟨Nat.le_refl _, Nat.le_refl _⟩, ?_⟩
        refine c_X12_faults (d := d + 3 * j + 5) (fun h9 => absurd h9 (by rw [hcu.2.1]; decide)) (fun _ => ?_)
        change Q none (z, N, q2 I 65 20 (I 65 17), L, R)
        exact hf _ w (gSp s) [] (frP_s frP_r (by decide)) (by rw [q2_at]; exact h17) hwn (fm_dp hwn hcu.1.2.1 hen (by rw [hlv]; exact h4) (by first | exact Or.inl h40 | exact Or.inr h91)) (bnS_m (bnS_E hbk (q2_nj (by decide)) (q2_nj (by decide)) (fun y => by unfold sameE; rw [q2_ne (by decide), q2_ne (by decide)]; exact ⟨rfl, fun _ _ => rfl⟩)) (by decide)) (fun e => ⟨e, (q2_nj (by decide)).trans h15⟩)
  · have hw97 : wdT n b w = 97 := by rw [← h16]; exact c1
    refine ⟨?_, ?_⟩
    · show vp_in (I 65 15) 4000
      rw [h15]
      exact vp_in_nI (by omega) (by decide)
    refine qJ_nm (qWP_mono _) [] [(2, .int 0), (1, .int (nI dp)), (0, .ref 65)] rfl rfl rfl ?_
    change qJ m_X12_piece (qWP _) Q 24 [(2, .int 0), (1, .int (nI dp)), (0, .ref 65)] [] _ _ (z, N, q2 I 73 ((I 65 15).toNatClampNeg) (I 65 18), L, R)
    have hl18 : I 65 18 = nI (letN n b w) := hcu.1.2.2.2.2.1 (tkA_97 (wd_lt hw97 (by decide)).2).1
    rw [h15, hl18, nI_clamp (by omega)]
    have hm8 := (tkA_97 (wd_lt hw97 (by decide)).2).2
    have hvK := wKey_v (b := b) (p := w) (m := letN n b w) (by omega) (fun k hk => ((let_at (n := n) (b := b) (n - w) w rfl).2 k hk).2)
    exact l_X12_pieceW (d := d + 3 * j) (I := I) (s := s) (by omega) hcu hen hbk hw97 (fun I' w' f1 f2 f3 f4 f5 f6 => hg I' w' _ _ s f1 f2 f3 f4 sgQ_r rfl rfl (fun _ => ⟨.refl _, ⟨by simp, vS_m.mpr (fun K hK => ⟨_, (List.mem_singleton.mp hK) ▸ hvK⟩)⟩, List.pairwise_singleton _ _⟩) (bnS_m f5 (by decide)) f6) (letN n b w) 0 _ (Nat.zero_add _) (fun c c1 c2 => q2_ne c2) q2_at (fun y hy => q2_nj hy) (fun i hi => absurd hi (by omega)) (fun c _ => by rw [q2_ne (by decide)])
theorem ok_piece {d z : Nat} {N : Nat → Nat} {L : Nat → Nat → Int64} {R : Nat → Nat → Option Nat} {n : Nat} {b : Nat → Int32} {j dp : Nat} (hj : dp + j = 4) (hA : ∀ j', j = j' + 1 → OKall d z N L R n b j' (dp + 1)) : OKpiece d z N L R n b j dp :=
  fun Q I a w s ha hcu hlv hen hst2 hbk hf hg => c_X12_piece (d := d) hj hA ha hcu hlv hen hst2 hbk hf hg
