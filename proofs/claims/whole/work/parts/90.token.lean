/-! formulas: the reference's tokens -/
def tpR (n : Nat) (b : Nat → Int32) (I : Nat → Nat → Int32) : Prop := I 65 6 = nI n ∧ n ≤ 200 ∧ ∀ p, p < n → I 69 p = b p
def wdT (n : Nat) (b : Nat → Int32) (w : Nat) : Int32 := if w < n then tkA n b w else 0
def nx (n : Nat) (b : Nat → Int32) (w : Nat) : Nat := if w < n then w + max 1 (letN n b w) else n
def isWh (x : Int32) : Prop := x = 32 ∨ x = 10
def tokAt (n : Nat) (b : Nat → Int32) (w : Nat) (I : Nat → Nat → Int32) : Prop := w ≤ n ∧ (w < n → ¬ isWh (b w)) ∧ I 65 17 = nI w ∧ I 65 16 = wdT n b w ∧ (0 < letN n b w → I 65 18 = nI (letN n b w)) ∧ I 65 19 = nI (nx n b w)
/-- only the token's fields move -/
def fr19 (I I' : Nat → Nat → Int32) : Prop := (∀ a, a ≠ 65 → I' a = I a) ∧ ∀ j, (j < 16 ∨ 19 < j) → I' 65 j = I 65 j
theorem fr19_r {I : Nat → Nat → Int32} : fr19 I I := ⟨fun _ _ => rfl, fun _ _ => rfl⟩
theorem fr19_t {I J K : Nat → Nat → Int32} (h : fr19 I J) (h' : fr19 J K) : fr19 I K := ⟨fun a ha => (h'.1 a ha).trans (h.1 a ha), fun j hj => (h'.2 j hj).trans (h.2 j hj)⟩
theorem fr19_s {I J : Nat → Nat → Int32} {j : Nat} {v : Int32} (h : fr19 I J) (hj : 16 ≤ j ∧ j ≤ 19) : fr19 I (q2 J 65 j v) := ⟨fun a ha => by rw [q2_ne ha]; exact h.1 a ha, fun k hk => by rw [q2_nj (by omega)]; exact h.2 k hk⟩
theorem tpR_fr {n : Nat} {b : Nat → Int32} {I J : Nat → Nat → Int32} (h : tpR n b I) (hf : fr19 I J) : tpR n b J := ⟨by rw [hf.2 6 (by omega)]; exact h.1, h.2.1, fun p hp => by rw [hf.1 69 (by decide)]; exact h.2.2 p hp⟩
theorem wh_let {x : Int32} (h : isWh x) : ¬ isLt x := by
  rcases h with h | h <;> rw [h] <;> decide
theorem fm_w {n : Nat} {b : Nat → Int32} {p : Nat} {s : sg} (h : p < n) (hw : isWh (b p)) : fmR n b p s = fmR n b (p + 1) s := by
  have e0 : letN n b p = 0 := let_off fun h9 => wh_let hw h9.2
  have e1 : tkA n b p = 0 := by
    unfold tkA tkB
    rw [if_neg (by omega), if_pos (show b p = 32 ∨ b p = 10 from hw)]
  have := fm_s (s := s) (s' := s) h (by rw [e1]; unfold stT; rw [if_pos rfl])
  rw [e0] at this
  exact this
theorem tkA_let {n : Nat} {b : Nat → Int32} {w : Nat} (h : 0 < letN n b w) : tkA n b w = if 8 < letN n b w then 1 else 97 := if_pos h
theorem tkA_no {n : Nat} {b : Nat → Int32} {w : Nat} (h : ¬ isLt (b w)) : tkA n b w = tkB (b w) := if_neg (by rw [let_off fun h9 => h h9.2]; decide)
theorem l_X12_token3 {d z : Nat} {N : Nat → Nat} {I : Nat → Nat → Int32} {L : Nat → Nat → Int64} {R : Nat → Nat → Option Nat} {Q : qP} {n p : Nat} {b : Nat → Int32} (h : ∀ I' w, tokAt n b w I' → fr19 I I' → (∀ s, fmR n b p s = fmR n b w s) → p ≤ w → Q none (z, N, I', L, R)) {w : Nat} {x : Int32} (hnw : ¬ isWh (b w)) (hl0 : 0 < letN n b w) (hpw : ∀ s, fmR n b p s = fmR n b w s) (hpw2 : p ≤ w) : ∀ (q e : Nat) (I1 : Nat → Nat → Int32), e + q = n → w < n → w ≤ e → letN n b w = (e - w) + letN n b e → fr19 I I1 → tpR n b I1 → I1 65 17 = nI w → I1 65 19 = nI e → qJ m_X12_token (qWP (d + 2)) Q 99 [(1, .int x), (0, .ref 65)] [] 0 0 (z, N, I1, L, R) := by
  refine nat_ind fun q ih => ?_
  intro e I1 heq hwn hwe hle hf hT h17 h19
  have h200 := hT.2.1
  refine qJ_run (qWP_mono _) [99] 400 ?_
  refine ⟨fun (c1 : (I1 65 6) ≤ (I1 65 19)) => ?_, fun (c1 : ¬ (I1 65 6) ≤ (I1 65 19)) => ?_⟩
  · have hen : ¬ e < n := fun h9 => by
      have c9 := c1
      rw [h19, hT.1, nI_leI (by omega) (by omega)] at c9
      omega
    refine ⟨fun (c2 : ((I1 65 19) - (I1 65 17)) ≤ 8) => ?_, fun (c2 : ¬ ((I1 65 19) - (I1 65 17)) ≤ 8) => ?_⟩
    · change Q none (z, N, q2 (q2 I1 65 18 ((I1 65 19) - (I1 65 17))) 65 16 97, L, R)
      have e0 : letN n b e = 0 := let_off (by first | (intro h9; exact hen h9.1) | (intro h9; exact hlt h9.2))
      rw [e0, Nat.add_zero] at hle
      have hsub : nI e - nI w = nI (letN n b w) := by rw [hle]; exact pk_sub (by omega)
      have hwn : w < n := by omega
      refine h _ w ⟨by omega, fun _ => hnw, ?_, ?_, fun _ => ?_, ?_⟩ (fr19_s (fr19_s hf (by decide)) (by decide)) hpw hpw2
      · rw [q2_nj (by decide), q2_nj (by decide)]; exact h17
      · rw [q2_at]; unfold wdT; rw [if_pos hwn, tkA_let hl0]; rw [if_neg (fun h9 => by have c9 := c2; rw [h19, h17, hsub] at c9; have := (nI_leI (b := 8) (by omega) (by omega)).mp c9; omega)]
      · rw [q2_nj (by decide), q2_at, h19, h17, hsub]
      · rw [q2_nj (by decide), q2_nj (by decide), h19]; unfold nx; rw [if_pos hwn]; congr 1; omega
    · change Q none (z, N, q2 (q2 I1 65 18 ((I1 65 19) - (I1 65 17))) 65 16 1, L, R)
      have e0 : letN n b e = 0 := let_off (by first | (intro h9; exact hen h9.1) | (intro h9; exact hlt h9.2))
      rw [e0, Nat.add_zero] at hle
      have hsub : nI e - nI w = nI (letN n b w) := by rw [hle]; exact pk_sub (by omega)
      have hwn : w < n := by omega
      refine h _ w ⟨by omega, fun _ => hnw, ?_, ?_, fun _ => ?_, ?_⟩ (fr19_s (fr19_s hf (by decide)) (by decide)) hpw hpw2
      · rw [q2_nj (by decide), q2_nj (by decide)]; exact h17
      · rw [q2_at]; unfold wdT; rw [if_pos hwn, tkA_let hl0]; rw [if_pos (Nat.not_le.mp fun h9 => c2 (by rw [h19, h17, hsub]; exact nI_le (b := 8) h9 (by omega)))]
      · rw [q2_nj (by decide), q2_at, h19, h17, hsub]
      · rw [q2_nj (by decide), q2_nj (by decide), h19]; unfold nx; rw [if_pos hwn]; congr 1; omega
  · have hen : e < n := by
      refine Decidable.byContradiction fun h9 => c1 ?_
      rw [h19, hT.1]
      exact nI_le (by omega) (by omega)
    have hbe : I1 69 (I1 65 19).toNatClampNeg = b e := by rw [h19, nI_clamp (by omega)]; exact hT.2.2 e hen
    refine ⟨?_, ?_⟩
    · show vp_in (I1 65 19) 200
      rw [h19]
      exact vp_in_nI (by omega) (by omega)
    refine ⟨⟨Nat.le_refl _, Nat.le_refl _⟩, ?_⟩
    refine c_X12_isLetter fun v hv => ?_
    replace hv : v = if 97 ≤ (I1 69 ((I1 65 19).toNatClampNeg)) ∧ (I1 69 ((I1 65 19).toNatClampNeg)) ≤ 122 then 1 else 0 := hv
    replace hv : v = if isLt (b e) then 1 else 0 := hv.trans (by rw [hbe])
    refine ⟨fun (c3 : v = 0) => ?_, fun (c3 : ¬ v = 0) => ?_⟩
    · have hlt : ¬ isLt (b e) := fun h9 => by
        have c9 := c3
        rw [hv, if_pos h9] at c9
        exact absurd c9 (by decide)
      refine ⟨fun (c4 : ((I1 65 19) - (I1 65 17)) ≤ 8) => ?_, fun (c4 : ¬ ((I1 65 19) - (I1 65 17)) ≤ 8) => ?_⟩
      · change Q none (z, N, q2 (q2 I1 65 18 ((I1 65 19) - (I1 65 17))) 65 16 97, L, R)
        have e0 : letN n b e = 0 := let_off (by first | (intro h9; exact hen h9.1) | (intro h9; exact hlt h9.2))
        rw [e0, Nat.add_zero] at hle
        have hsub : nI e - nI w = nI (letN n b w) := by rw [hle]; exact pk_sub (by omega)
        have hwn : w < n := by omega
        refine h _ w ⟨by omega, fun _ => hnw, ?_, ?_, fun _ => ?_, ?_⟩ (fr19_s (fr19_s hf (by decide)) (by decide)) hpw hpw2
        · rw [q2_nj (by decide), q2_nj (by decide)]; exact h17
        · rw [q2_at]; unfold wdT; rw [if_pos hwn, tkA_let hl0]; rw [if_neg (fun h9 => by have c9 := c4; rw [h19, h17, hsub] at c9; have := (nI_leI (b := 8) (by omega) (by omega)).mp c9; omega)]
        · rw [q2_nj (by decide), q2_at, h19, h17, hsub]
        · rw [q2_nj (by decide), q2_nj (by decide), h19]; unfold nx; rw [if_pos hwn]; congr 1; omega
      · change Q none (z, N, q2 (q2 I1 65 18 ((I1 65 19) - (I1 65 17))) 65 16 1, L, R)
        have e0 : letN n b e = 0 := let_off (by first | (intro h9; exact hen h9.1) | (intro h9; exact hlt h9.2))
        rw [e0, Nat.add_zero] at hle
        have hsub : nI e - nI w = nI (letN n b w) := by rw [hle]; exact pk_sub (by omega)
        have hwn : w < n := by omega
        refine h _ w ⟨by omega, fun _ => hnw, ?_, ?_, fun _ => ?_, ?_⟩ (fr19_s (fr19_s hf (by decide)) (by decide)) hpw hpw2
        · rw [q2_nj (by decide), q2_nj (by decide)]; exact h17
        · rw [q2_at]; unfold wdT; rw [if_pos hwn, tkA_let hl0]; rw [if_pos (Nat.not_le.mp fun h9 => c4 (by rw [h19, h17, hsub]; exact nI_le (b := 8) h9 (by omega)))]
        · rw [q2_nj (by decide), q2_at, h19, h17, hsub]
        · rw [q2_nj (by decide), q2_nj (by decide), h19]; unfold nx; rw [if_pos hwn]; congr 1; omega
    · have hlt : isLt (b e) := by
        refine Decidable.byContradiction fun h9 => c3 ?_
        rw [hv, if_neg h9]
      change qJ m_X12_token (qWP _) Q 99 [(1, .int x), (0, .ref 65)] [] _ _ (z, N, q2 I1 65 19 ((I1 65 19) + 1), L, R)
      obtain ⟨k, rfl⟩ : ∃ k, q = k + 1 := ⟨q - 1, by omega⟩
      refine ih k rfl (e + 1) _ (by omega) hwn (by omega) (by rw [hle, let_on hen hlt]; omega) (fr19_s hf (by decide)) (tpR_fr hT (fr19_s fr19_r (by decide))) ?_ ?_
      · rw [q2_nj (by decide)]; exact h17
      · rw [q2_at, h19, nI_1]
theorem l_X12_token2 {d z : Nat} {N : Nat → Nat} {I : Nat → Nat → Int32} {L : Nat → Nat → Int64} {R : Nat → Nat → Option Nat} {Q : qP} {n p : Nat} {b : Nat → Int32} (h : ∀ I' w, tokAt n b w I' → fr19 I I' → (∀ s, fmR n b p s = fmR n b w s) → p ≤ w → Q none (z, N, I', L, R)) : ∀ (e : Nat) (I1 : Nat → Nat → Int32), e ≤ n → (e < n → ¬ isWh (b e)) → (∀ s, fmR n b p s = fmR n b e s) → p ≤ e → fr19 I I1 → tpR n b I1 → I1 65 19 = nI e → qJ m_X12_token (qWP (d + 2)) Q 52 [(0, .ref 65)] [] 0 0 (z, N, I1, L, R) := by
  skip
  intro e I1 hle hnw hpw hpw2 hf hT h19
  have h200 := hT.2.1
  refine qJ_run (qWP_mono _) [52, 99] 400 ?_
  refine ⟨fun (c1 : ¬ (I1 65 19) = (I1 65 6)) => ?_, fun (c1 : (I1 65 19) = (I1 65 6)) => ?_⟩
  · have hen : e < n := by
      refine Nat.lt_of_le_of_ne hle fun h9 => c1 ?_
      rw [h19, hT.1, h9]
    have hbe : I1 69 (I1 65 19).toNatClampNeg = b e := by rw [h19, nI_clamp (by omega)]; exact hT.2.2 e hen
    refine ⟨?_, ?_⟩
    · show vp_in (I1 65 19) 200
      rw [h19]
      exact vp_in_nI (by omega) (by omega)
    refine ⟨⟨Nat.le_refl _, Nat.le_refl _⟩, ?_⟩
    refine c_X12_isLetter fun v hv => ?_
    replace hv : v = if 97 ≤ (I1 69 ((I1 65 19).toNatClampNeg)) ∧ (I1 69 ((I1 65 19).toNatClampNeg)) ≤ 122 then 1 else 0 := hv
    replace hv : v = if isLt (b e) then 1 else 0 := hv.trans (by rw [hbe])
    refine ⟨fun (c2 : v = 0) => ?_, fun (c2 : ¬ v = 0) => ?_⟩
    · have hlt : ¬ isLt (b e) := fun h9 => by
        have c9 := c2
        rw [hv, if_pos h9] at c9
        exact absurd c9 (by decide)
      refine ⟨fun (c3 : (I1 69 ((I1 65 19).toNatClampNeg)) = 40) => ?_, fun (c3 : ¬ (I1 69 ((I1 65 19).toNatClampNeg)) = 40) => ?_⟩
      · change Q none (z, N, q2 (q2 (q2 (q2 I1 65 17 (I1 65 19)) 65 18 0) 65 16 (I1 69 ((I1 65 19).toNatClampNeg))) 65 19 ((I1 65 19) + 1), L, R)
        refine h _ e ⟨hle, fun h9 => hnw hen, ?_, ?_, fun h9 => ?_, ?_⟩ (fr19_s (fr19_s (fr19_s (fr19_s hf (by decide)) (by decide)) (by decide)) (by decide)) hpw hpw2
        · rw [q2_nj (by decide), q2_nj (by decide), q2_nj (by decide), q2_at]; exact h19
        · rw [q2_nj (by decide), q2_at]; unfold wdT; rw [if_pos hen, tkA_no hlt]; unfold tkB; rw [if_neg (show ¬ (b e = 32 ∨ b e = 10) from hnw hen), if_pos (by rw [← hbe]; first | exact Or.inl (by assumption) | exact Or.inr (Or.inl (by assumption)) | exact Or.inr (Or.inr (Or.inl (by assumption))) | exact Or.inr (Or.inr (Or.inr (Or.inl (by assumption)))) | exact Or.inr (Or.inr (Or.inr (Or.inr (Or.inl (by assumption))))) | exact Or.inr (Or.inr (Or.inr (Or.inr (Or.inr (by assumption))))))]; exact hbe
        · rw [let_off (fun h8 => hlt h8.2)] at h9; exact absurd h9 (by decide)
        · rw [q2_at, h19, nI_1]; unfold nx; rw [if_pos hen, let_off (fun h8 => hlt h8.2)]; rfl
      · refine ⟨fun (c4 : (I1 69 ((I1 65 19).toNatClampNeg)) = 41) => ?_, fun (c4 : ¬ (I1 69 ((I1 65 19).toNatClampNeg)) = 41) => ?_⟩
        · change Q none (z, N, q2 (q2 (q2 (q2 I1 65 17 (I1 65 19)) 65 18 0) 65 16 (I1 69 ((I1 65 19).toNatClampNeg))) 65 19 ((I1 65 19) + 1), L, R)
          refine h _ e ⟨hle, fun h9 => hnw hen, ?_, ?_, fun h9 => ?_, ?_⟩ (fr19_s (fr19_s (fr19_s (fr19_s hf (by decide)) (by decide)) (by decide)) (by decide)) hpw hpw2
          · rw [q2_nj (by decide), q2_nj (by decide), q2_nj (by decide), q2_at]; exact h19
          · rw [q2_nj (by decide), q2_at]; unfold wdT; rw [if_pos hen, tkA_no hlt]; unfold tkB; rw [if_neg (show ¬ (b e = 32 ∨ b e = 10) from hnw hen), if_pos (by rw [← hbe]; first | exact Or.inl (by assumption) | exact Or.inr (Or.inl (by assumption)) | exact Or.inr (Or.inr (Or.inl (by assumption))) | exact Or.inr (Or.inr (Or.inr (Or.inl (by assumption)))) | exact Or.inr (Or.inr (Or.inr (Or.inr (Or.inl (by assumption))))) | exact Or.inr (Or.inr (Or.inr (Or.inr (Or.inr (by assumption))))))]; exact hbe
          · rw [let_off (fun h8 => hlt h8.2)] at h9; exact absurd h9 (by decide)
          · rw [q2_at, h19, nI_1]; unfold nx; rw [if_pos hen, let_off (fun h8 => hlt h8.2)]; rfl
        · refine ⟨fun (c5 : (I1 69 ((I1 65 19).toNatClampNeg)) = 91) => ?_, fun (c5 : ¬ (I1 69 ((I1 65 19).toNatClampNeg)) = 91) => ?_⟩
          · change Q none (z, N, q2 (q2 (q2 (q2 I1 65 17 (I1 65 19)) 65 18 0) 65 16 (I1 69 ((I1 65 19).toNatClampNeg))) 65 19 ((I1 65 19) + 1), L, R)
            refine h _ e ⟨hle, fun h9 => hnw hen, ?_, ?_, fun h9 => ?_, ?_⟩ (fr19_s (fr19_s (fr19_s (fr19_s hf (by decide)) (by decide)) (by decide)) (by decide)) hpw hpw2
            · rw [q2_nj (by decide), q2_nj (by decide), q2_nj (by decide), q2_at]; exact h19
            · rw [q2_nj (by decide), q2_at]; unfold wdT; rw [if_pos hen, tkA_no hlt]; unfold tkB; rw [if_neg (show ¬ (b e = 32 ∨ b e = 10) from hnw hen), if_pos (by rw [← hbe]; first | exact Or.inl (by assumption) | exact Or.inr (Or.inl (by assumption)) | exact Or.inr (Or.inr (Or.inl (by assumption))) | exact Or.inr (Or.inr (Or.inr (Or.inl (by assumption)))) | exact Or.inr (Or.inr (Or.inr (Or.inr (Or.inl (by assumption))))) | exact Or.inr (Or.inr (Or.inr (Or.inr (Or.inr (by assumption))))))]; exact hbe
            · rw [let_off (fun h8 => hlt h8.2)] at h9; exact absurd h9 (by decide)
            · rw [q2_at, h19, nI_1]; unfold nx; rw [if_pos hen, let_off (fun h8 => hlt h8.2)]; rfl
          · refine ⟨fun (c6 : (I1 69 ((I1 65 19).toNatClampNeg)) = 93) => ?_, fun (c6 : ¬ (I1 69 ((I1 65 19).toNatClampNeg)) = 93) => ?_⟩
            · change Q none (z, N, q2 (q2 (q2 (q2 I1 65 17 (I1 65 19)) 65 18 0) 65 16 (I1 69 ((I1 65 19).toNatClampNeg))) 65 19 ((I1 65 19) + 1), L, R)
              refine h _ e ⟨hle, fun h9 => hnw hen, ?_, ?_, fun h9 => ?_, ?_⟩ (fr19_s (fr19_s (fr19_s (fr19_s hf (by decide)) (by decide)) (by decide)) (by decide)) hpw hpw2
              · rw [q2_nj (by decide), q2_nj (by decide), q2_nj (by decide), q2_at]; exact h19
              · rw [q2_nj (by decide), q2_at]; unfold wdT; rw [if_pos hen, tkA_no hlt]; unfold tkB; rw [if_neg (show ¬ (b e = 32 ∨ b e = 10) from hnw hen), if_pos (by rw [← hbe]; first | exact Or.inl (by assumption) | exact Or.inr (Or.inl (by assumption)) | exact Or.inr (Or.inr (Or.inl (by assumption))) | exact Or.inr (Or.inr (Or.inr (Or.inl (by assumption)))) | exact Or.inr (Or.inr (Or.inr (Or.inr (Or.inl (by assumption))))) | exact Or.inr (Or.inr (Or.inr (Or.inr (Or.inr (by assumption))))))]; exact hbe
              · rw [let_off (fun h8 => hlt h8.2)] at h9; exact absurd h9 (by decide)
              · rw [q2_at, h19, nI_1]; unfold nx; rw [if_pos hen, let_off (fun h8 => hlt h8.2)]; rfl
            · refine ⟨fun (c7 : (I1 69 ((I1 65 19).toNatClampNeg)) = 124) => ?_, fun (c7 : ¬ (I1 69 ((I1 65 19).toNatClampNeg)) = 124) => ?_⟩
              · change Q none (z, N, q2 (q2 (q2 (q2 I1 65 17 (I1 65 19)) 65 18 0) 65 16 (I1 69 ((I1 65 19).toNatClampNeg))) 65 19 ((I1 65 19) + 1), L, R)
                refine h _ e ⟨hle, fun h9 => hnw hen, ?_, ?_, fun h9 => ?_, ?_⟩ (fr19_s (fr19_s (fr19_s (fr19_s hf (by decide)) (by decide)) (by decide)) (by decide)) hpw hpw2
                · rw [q2_nj (by decide), q2_nj (by decide), q2_nj (by decide), q2_at]; exact h19
                · rw [q2_nj (by decide), q2_at]; unfold wdT; rw [if_pos hen, tkA_no hlt]; unfold tkB; rw [if_neg (show ¬ (b e = 32 ∨ b e = 10) from hnw hen), if_pos (by rw [← hbe]; first | exact Or.inl (by assumption) | exact Or.inr (Or.inl (by assumption)) | exact Or.inr (Or.inr (Or.inl (by assumption))) | exact Or.inr (Or.inr (Or.inr (Or.inl (by assumption)))) | exact Or.inr (Or.inr (Or.inr (Or.inr (Or.inl (by assumption))))) | exact Or.inr (Or.inr (Or.inr (Or.inr (Or.inr (by assumption))))))]; exact hbe
                · rw [let_off (fun h8 => hlt h8.2)] at h9; exact absurd h9 (by decide)
                · rw [q2_at, h19, nI_1]; unfold nx; rw [if_pos hen, let_off (fun h8 => hlt h8.2)]; rfl
              · refine ⟨fun (c8 : ¬ (I1 69 ((I1 65 19).toNatClampNeg)) = 46) => ?_, fun (c8 : (I1 69 ((I1 65 19).toNatClampNeg)) = 46) => ?_⟩
                · change Q none (z, N, q2 (q2 (q2 (q2 I1 65 17 (I1 65 19)) 65 18 0) 65 16 1) 65 19 ((I1 65 19) + 1), L, R)
                  refine h _ e ⟨hle, fun h9 => hnw hen, ?_, ?_, fun h9 => ?_, ?_⟩ (fr19_s (fr19_s (fr19_s (fr19_s hf (by decide)) (by decide)) (by decide)) (by decide)) hpw hpw2
                  · rw [q2_nj (by decide), q2_nj (by decide), q2_nj (by decide), q2_at]; exact h19
                  · rw [q2_nj (by decide), q2_at]; unfold wdT; rw [if_pos hen, tkA_no hlt]; unfold tkB; rw [if_neg (show ¬ (b e = 32 ∨ b e = 10) from hnw hen), if_neg (fun h9 => by rcases h9 with h8 | h8 | h8 | h8 | h8 | h8 <;> (rw [← hbe] at h8; contradiction))]
                  · rw [let_off (fun h8 => hlt h8.2)] at h9; exact absurd h9 (by decide)
                  · rw [q2_at, h19, nI_1]; unfold nx; rw [if_pos hen, let_off (fun h8 => hlt h8.2)]; rfl
                · change Q none (z, N, q2 (q2 (q2 (q2 I1 65 17 (I1 65 19)) 65 18 0) 65 16 (I1 69 ((I1 65 19).toNatClampNeg))) 65 19 ((I1 65 19) + 1), L, R)
                  refine h _ e ⟨hle, fun h9 => hnw hen, ?_, ?_, fun h9 => ?_, ?_⟩ (fr19_s (fr19_s (fr19_s (fr19_s hf (by decide)) (by decide)) (by decide)) (by decide)) hpw hpw2
                  · rw [q2_nj (by decide), q2_nj (by decide), q2_nj (by decide), q2_at]; exact h19
                  · rw [q2_nj (by decide), q2_at]; unfold wdT; rw [if_pos hen, tkA_no hlt]; unfold tkB; rw [if_neg (show ¬ (b e = 32 ∨ b e = 10) from hnw hen), if_pos (by rw [← hbe]; first | exact Or.inl (by assumption) | exact Or.inr (Or.inl (by assumption)) | exact Or.inr (Or.inr (Or.inl (by assumption))) | exact Or.inr (Or.inr (Or.inr (Or.inl (by assumption)))) | exact Or.inr (Or.inr (Or.inr (Or.inr (Or.inl (by assumption))))) | exact Or.inr (Or.inr (Or.inr (Or.inr (Or.inr (by assumption))))))]; exact hbe
                  · rw [let_off (fun h8 => hlt h8.2)] at h9; exact absurd h9 (by decide)
                  · rw [q2_at, h19, nI_1]; unfold nx; rw [if_pos hen, let_off (fun h8 => hlt h8.2)]; rfl
    · have hlt : isLt (b e) := by
        refine Decidable.byContradiction fun h9 => c2 ?_
        rw [hv, if_neg h9]
      change qJ m_X12_token (qWP _) Q 99 [(1, .int (I1 69 ((I1 65 19).toNatClampNeg))), (0, .ref 65)] [] _ _ (z, N, q2 (q2 I1 65 17 (I1 65 19)) 65 18 0, L, R)
      refine l_X12_token3 (d := d) h (hnw hen) (by rw [let_on hen hlt]; omega) hpw hpw2 (n - e) e _ (by omega) hen (Nat.le_refl _) (by omega) (fr19_s (fr19_s hf (by decide)) (by decide)) (tpR_fr hT (fr19_s (fr19_s fr19_r (by decide)) (by decide))) ?_ ?_
      · rw [q2_nj (by decide), q2_at]; exact h19
      · rw [q2_nj (by decide), q2_nj (by decide)]; exact h19
  · have hen : e = n := by
      have c9 := c1
      rw [h19, hT.1] at c9
      exact (nI_eq (by omega) (by omega)).mp c9
    change Q none (z, N, q2 (q2 (q2 I1 65 17 (I1 65 19)) 65 18 0) 65 16 0, L, R)
    refine h _ e ⟨hle, fun h9 => absurd h9 (by omega), ?_, ?_, fun h9 => ?_, ?_⟩ (fr19_s (fr19_s (fr19_s hf (by decide)) (by decide)) (by decide)) hpw hpw2
    · rw [q2_nj (by decide), q2_nj (by decide), q2_at]; exact h19
    · rw [q2_at]; unfold wdT; rw [if_neg (by omega)]
    · rw [let_off (by omega)] at h9; exact absurd h9 (by decide)
    · rw [q2_nj (by decide), q2_nj (by decide), q2_nj (by decide), h19]; unfold nx; rw [if_neg (by omega), hen]
theorem l_X12_token1 {d z : Nat} {N : Nat → Nat} {I : Nat → Nat → Int32} {L : Nat → Nat → Int64} {R : Nat → Nat → Option Nat} {Q : qP} {n p : Nat} {b : Nat → Int32} (h : ∀ I' w, tokAt n b w I' → fr19 I I' → (∀ s, fmR n b p s = fmR n b w s) → p ≤ w → Q none (z, N, I', L, R)) : ∀ (q e : Nat) (I1 : Nat → Nat → Int32), e + q = n → (∀ s, fmR n b p s = fmR n b e s) → p ≤ e → fr19 I I1 → tpR n b I1 → I1 65 19 = nI e → qJ m_X12_token (qWP (d + 2)) Q 0 [(0, .ref 65)] [] 0 0 (z, N, I1, L, R) := by
  refine nat_ind fun q ih => ?_
  intro e I1 heq hpw hpw2 hf hT h19
  have h200 := hT.2.1
  refine qJ_run (qWP_mono _) [0, 52] 400 ?_
  refine ⟨fun (c1 : (I1 65 6) ≤ (I1 65 19)) => ?_, fun (c1 : ¬ (I1 65 6) ≤ (I1 65 19)) => ?_⟩
  · have hen : ¬ e < n := fun h9 => by
      have c9 := c1
      rw [h19, hT.1, nI_leI (by omega) (by omega)] at c9
      omega
    change qJ m_X12_token (qWP _) Q 52 [(0, .ref 65)] [] _ _ (z, N, I1, L, R)
    exact l_X12_token2 (d := d) h e I1 (by omega) (fun h9 => absurd h9 hen) hpw hpw2 hf hT h19
  · have hen : e < n := by
      refine Decidable.byContradiction fun h9 => c1 ?_
      rw [h19, hT.1]
      exact nI_le (by omega) (by omega)
    have hbe : I1 69 (I1 65 19).toNatClampNeg = b e := by rw [h19, nI_clamp (by omega)]; exact hT.2.2 e hen
    refine ⟨?_, ?_⟩
    · show vp_in (I1 65 19) 200
      rw [h19]
      exact vp_in_nI (by omega) (by omega)
    refine ⟨fun (c2 : (I1 69 ((I1 65 19).toNatClampNeg)) = 32) => ?_, fun (c2 : ¬ (I1 69 ((I1 65 19).toNatClampNeg)) = 32) => ?_⟩
    · have hwh : isWh (b e) := Or.inl (by rw [← hbe]; exact c2)
      change qJ m_X12_token (qWP _) Q 0 [(0, .ref 65)] [] _ _ (z, N, q2 I1 65 19 ((I1 65 19) + 1), L, R)
      have hwh : isWh (b e) := by first | exact Or.inl (by rw [← hbe]; assumption) | exact Or.inr (by rw [← hbe]; assumption)
      obtain ⟨k, rfl⟩ : ∃ k, q = k + 1 := ⟨q - 1, by omega⟩
      refine ih k rfl (e + 1) _ (by omega) (fun s => (hpw s).trans (fm_w hen hwh)) (by omega) (fr19_s hf (by decide)) (tpR_fr hT (fr19_s fr19_r (by decide))) ?_
      rw [q2_at, h19, nI_1]
    · refine ⟨?_, ?_⟩
      · show vp_in (I1 65 19) 200
        rw [h19]
        exact vp_in_nI (by omega) (by omega)
      refine ⟨fun (c3 : ¬ (I1 69 ((I1 65 19).toNatClampNeg)) = 10) => ?_, fun (c3 : (I1 69 ((I1 65 19).toNatClampNeg)) = 10) => ?_⟩
      · change qJ m_X12_token (qWP _) Q 52 [(0, .ref 65)] [] _ _ (z, N, I1, L, R)
        exact l_X12_token2 (d := d) h e I1 (by omega) (fun _ h9 => by rcases h9 with h8 | h8 <;> (rw [← hbe] at h8; contradiction)) hpw hpw2 hf hT h19
      · change qJ m_X12_token (qWP _) Q 0 [(0, .ref 65)] [] _ _ (z, N, q2 I1 65 19 ((I1 65 19) + 1), L, R)
        have hwh : isWh (b e) := by first | exact Or.inl (by rw [← hbe]; assumption) | exact Or.inr (by rw [← hbe]; assumption)
        obtain ⟨k, rfl⟩ : ∃ k, q = k + 1 := ⟨q - 1, by omega⟩
        refine ih k rfl (e + 1) _ (by omega) (fun s => (hpw s).trans (fm_w hen hwh)) (by omega) (fr19_s hf (by decide)) (tpR_fr hT (fr19_s fr19_r (by decide))) ?_
        rw [q2_at, h19, nI_1]
theorem c_X12_token {d z : Nat} {N : Nat → Nat} {I : Nat → Nat → Int32} {L : Nat → Nat → Int64} {R : Nat → Nat → Option Nat} {Q : qP} {n p : Nat} {b : Nat → Int32} (h : ∀ I' w, tokAt n b w I' → fr19 I I' → (∀ s, fmR n b p s = fmR n b w s) → p ≤ w → Q none (z, N, I', L, R)) (hT : tpR n b I) (h19 : I 65 19 = nI p) (hp : p ≤ n) : qWP (d + 3) 183 [.ref 65] (z, N, I, L, R) Q := by
  refine qWP_of m_X12_token rfl rfl [(0, .ref 65)] rfl ?_
  exact l_X12_token1 (d := d) h (n - p) p I (by omega) (fun _ => rfl) (Nat.le_refl _) fr19_r hT h19
