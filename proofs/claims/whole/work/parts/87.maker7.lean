/-! formulas: the class's walk -/
theorem stT_K {s : sg} {t : Int32} {K K' : Nat} (h : ¬ t = 97) : stT s t K = stT s t K' := by
  unfold stT
  split
  · rfl
  · split
    · rfl
    · first | rfl | rw [if_neg h]
theorem tkB_97 {x : Int32} : ¬ tkB x = 97 := by
  unfold tkB
  split
  · decide
  · split
    · rename_i h
      intro h9
      rw [h9] at h
      exact absurd h (by decide)
    · decide
theorem fm_e {n : Nat} {b : Nat → Int32} {p : Nat} {s : sg} (h : ¬ p < n) : fmR n b p s = if gEn s = true then .inr s else .inl n := run_e h
theorem fm_f {n : Nat} {b : Nat → Int32} {p : Nat} {s : sg} (h : p < n) (e : stT s (tkA n b p) (wKey b p (letN n b p)) = none) : fmR n b p s = .inl p := run_f h e
theorem fm_s {n : Nat} {b : Nat → Int32} {p : Nat} {s s' : sg} (h : p < n) (e : stT s (tkA n b p) (wKey b p (letN n b p)) = some s') : fmR n b p s = fmR n b (p + max 1 (letN n b p)) s' := run_s h e
/-- a word -/
theorem tk_wf {n : Nat} {b : Nat → Int32} {p K : Nat} {s : sg} (h0 : 0 < letN n b p) (h : gEn s = true ∨ 8 < letN n b p) : stT s (tkA n b p) K = none := by
  unfold tkA
  rw [if_pos h0]
  by_cases h8 : 8 < letN n b p
  · rw [if_pos h8]; exact stT_x
  · rw [if_neg h8]; exact stT_e (h.resolve_right h8) (by decide)
theorem tk_ws {n : Nat} {b : Nat → Int32} {p K : Nat} {s : sg} (h0 : 0 < letN n b p) (h : gEn s = false) (h8 : letN n b p ≤ 8) : stT s (tkA n b p) K = some (aPc [K] s) := by
  unfold tkA
  rw [if_pos h0, if_neg (by omega)]
  unfold stT
  rw [if_neg (by decide), if_neg (by rw [h]; decide), if_pos rfl]
theorem tk_m {n : Nat} {b : Nat → Int32} {p K : Nat} {s : sg} (h0 : ¬ 0 < letN n b p) : stT s (tkA n b p) K = stT s (tkB (b p)) 0 := by
  unfold tkA
  rw [if_neg h0]
  exact stT_K tkB_97
theorem max1 {m : Nat} (h : m ≤ 200) : (if 1 < nI m then nI m else 1) = nI (max 1 m) := by
  by_cases h1 : 1 < m
  · rw [if_pos (show (1 : Int32) < nI m from nI_lt (a := 1) h1 (by omega)), Nat.max_eq_right (by omega)]
  · rw [if_neg (show ¬ (1 : Int32) < nI m from fun h9 => h1 ((nI_ltI (a := 1) (by omega) (by omega)).mp h9)), Nat.max_eq_left (by omega)]; rfl
theorem l_X2_make {d z : Nat} {N : Nat → Nat} {I : Nat → Nat → Int32} {L : Nat → Nat → Int64} {R : Nat → Nat → Option Nat} {Q : qP} {W : Nat ⊕ sg} (hN : mkN z N) {n : Nat} (hn : I 9 1 = nI n) (h200 : n ≤ 200) (hq0 : ∀ f g' s' I' L' R', W = .inl f → f ≤ n → mkR I L R g' s' I' L' R' → qStat (z, N, I', L', R') → Q (some (.int (nI f))) (z, N, I', L', R')) (hq1 : ∀ s' g' I' L' R', W = .inr s' → mkR I L R g' s' I' L' R' → qStat (z, N, I', L', R') → Q (some (.int (-1))) (z, N, I', L', R')) : ∀ (q p : Nat) (g : Nat → Nat) (s : sg) (I1 : Nat → Nat → Int32) (L1 : Nat → Nat → Int64) (R1 : Nat → Nat → Option Nat) (st : Int32), n ≤ p + q → p ≤ n → mkR I L R g s I1 L1 R1 → qStat (z, N, I1, L1, R1) → R1 11 5 = none → fmR n (bT I) p s = W → qJ m_X2_make (qWP (d + 8)) Q 31 [(4, .int (nI p)), (3, .int st), (2, .int (nI n)), (1, .ref 9), (0, .ref 11)] [] 0 0 (z, N, I1, L1, R1) := by
  refine nat_ind fun q ih => ?_
  intro p g s I1 L1 R1 st hpq hpn hm hst hpz hW
  have hb : bT I1 = bT I := by
    funext k
    unfold bT
    rw [(hm.1.2.2.1 10 (by decide)).1]
  have hn1 : I1 9 1 = nI n := by rw [(hm.1.2.2.1 9 (by decide)).1]; exact hn
  have hl8 : I1 11 8 = bI (gEn s) := hm.1.2.2.2.2.1.2.2.1
  refine qJ_run (qWP_mono _) [31] 400 ?_
  refine ⟨fun (c1 : (nI n) ≤ (nI p)) => ?_, fun (c1 : ¬ (nI n) ≤ (nI p)) => ?_⟩
  · have hp : ¬ p < n := fun h9 => by
      have c9 := c1
      rw [nI_leI (by omega) (by omega)] at c9
      omega
    refine ⟨fun (c2 : (I1 11 8) = 0) => ?_, fun (c2 : ¬ (I1 11 8) = 0) => ?_⟩
    · have hen : gEn s = false := by
        have c9 := c2
        rw [hl8] at c9
        exact bI_1.mp c9
      change Q (some (.int (nI n))) (z, N, I1, L1, R1)
      exact hq0 n g s I1 L1 R1 (by rw [← hW, fm_e hp, if_neg (by rw [hen]; decide)]) (Nat.le_refl _) hm hst
    · have hen : gEn s = true := by
        have c9 := c2
        rw [hl8] at c9
        cases e : gEn s with
        | true => rfl
        | false => rw [e] at c9; exact absurd rfl c9
      change Q (some (.int (-1))) (z, N, I1, L1, R1)
      exact hq1 s g I1 L1 R1 (by rw [← hW, fm_e hp, if_pos hen]) hm hst
  · have hp : p < n := by
      refine Decidable.byContradiction fun h9 => c1 ?_
      exact nI_le (by omega) (by omega)
    refine ⟨⟨Nat.le_refl _, Nat.le_refl _⟩, ?_⟩
    have hlt := let_at (n := n) (b := bT I) (n - p) p rfl
    refine c_X8_lettersFrom (d := d + 5) hn1 h200 hpn ?_
    rw [hb]
    refine ⟨fun (c3 : (nI (letN n (bT I) p)) ≤ 0) => ?_, fun (c3 : ¬ (nI (letN n (bT I) p)) ≤ 0) => ?_⟩
    · have hm0 : ¬ 0 < letN n (bT I) p := fun h9 => by
        have c9 := c3
        exact absurd ((nI_leI (b := 0) (by omega) (by omega)).mp c9) (by omega)
      refine ⟨⟨Nat.le_refl _, Nat.le_refl _⟩, ?_⟩
      refine c_byte (d := d + 7) hn1 h200 hp ?_
      refine ⟨⟨Nat.le_refl _, Nat.le_refl _⟩, ?_⟩
      refine c_X2_takeMark (d := d) hN hst hm hpz (fun ea => ?_) (fun s2 I2 L2 R2 ea hpd hst2 => ?_)
      · rw [hb] at ea
        refine ⟨fun h => absurd h (by decide), fun _ => ?_⟩
        change Q (some (.int (nI p))) (z, N, I1, L1, R1)
        exact hq0 p g s I1 L1 R1 (by rw [← hW]; exact fm_f hp (by rw [tk_m hm0]; exact ea)) hpn hm hst
      · rw [hb] at ea
        refine ⟨fun _ => ?_, fun h => absurd h (by decide)⟩
        refine ⟨⟨Nat.le_refl _, Nat.le_refl _⟩, ?_⟩
        refine c_X2_appendPieceP (d := d + 1) hN hst2 hpd fun g3 I3 L3 R3 hm3 hst3 hp3 => ?_
        refine qJ_nm (qWP_mono _) [(6, _), (5, _)] [(4, .int ((nI p) + (if 1 < (nI (letN n (bT I) p)) then (nI (letN n (bT I) p)) else 1))), (3, .int (if 1 < (nI (letN n (bT I) p)) then (nI (letN n (bT I) p)) else 1)), (2, .int (nI n)), (1, .ref 9), (0, .ref 11)] rfl rfl rfl ?_
        obtain ⟨k, rfl⟩ : ∃ k, q = k + 1 := ⟨q - 1, by omega⟩
        have hq9 := ih k rfl (p + max 1 (letN n (bT I) p)) g3 s2 I3 L3 R3 (nI (max 1 (letN n (bT I) p))) (by omega) (by omega) hm3 hst3 hp3 (by rw [← hW]; exact (fm_s hp (by rw [tk_m hm0]; exact ea)).symm)
        rw [← nI_add, ← max1 (by omega)] at hq9
        exact hq9
    · have hm0 : 0 < letN n (bT I) p := Nat.pos_of_ne_zero fun h9 => c3 (by rw [h9]; decide)
      refine ⟨⟨Nat.le_refl _, Nat.le_refl _⟩, ?_⟩
      refine c_X2_takeWord (d := d + 3) (p := p) (m := letN n (bT I) p) hN hst hm hn1 h200 (by omega) hm0 (by rw [hb]; exact fun k hk => (hlt.2 k hk).2) (fun ea => ?_) (fun ea1 ea2 I2 L2 R2 hpd hst2 => ?_)
      · refine ⟨fun h => absurd h (by decide), fun _ => ?_⟩
        change Q (some (.int (nI p))) (z, N, I1, L1, R1)
        exact hq0 p g s I1 L1 R1 (by rw [← hW]; exact fm_f hp (tk_wf hm0 ea)) hpn hm hst
      · have ea := And.intro ea1 ea2
        rw [hb] at hpd
        refine ⟨fun _ => ?_, fun h => absurd h (by decide)⟩
        refine ⟨⟨Nat.le_refl _, Nat.le_refl _⟩, ?_⟩
        refine c_X2_appendPieceP (d := d + 1) hN hst2 hpd fun g3 I3 L3 R3 hm3 hst3 hp3 => ?_
        refine qJ_nm (qWP_mono _) [(6, _), (5, _)] [(4, .int ((nI p) + (if 1 < (nI (letN n (bT I) p)) then (nI (letN n (bT I) p)) else 1))), (3, .int (if 1 < (nI (letN n (bT I) p)) then (nI (letN n (bT I) p)) else 1)), (2, .int (nI n)), (1, .ref 9), (0, .ref 11)] rfl rfl rfl ?_
        obtain ⟨k, rfl⟩ : ∃ k, q = k + 1 := ⟨q - 1, by omega⟩
        have hq9 := ih k rfl (p + max 1 (letN n (bT I) p)) g3 (aPc [wKey (bT I) p (letN n (bT I) p)] s) I3 L3 R3 (nI (max 1 (letN n (bT I) p))) (by omega) (by omega) hm3 hst3 hp3 (by rw [← hW]; exact (fm_s hp (tk_ws hm0 ea.1 ea.2)).symm)
        rw [← nI_add, ← max1 (by omega)] at hq9
        exact hq9
def sg00 : sg := (0, fun _ => [], fun _ => [], fun _ => false, false, false, false)
theorem mkR_base {I0 I J : Nat → Nat → Int32} {L0 L M : Nat → Nat → Int64} {R0 R S : Nat → Nat → Option Nat} {g : Nat → Nat} {s : sg} (h : mkR I0 L0 R0 g s I L R) (hf : ∀ a, (a < 11 ∨ 38 < a) → I0 a = J a ∧ L0 a = M a ∧ R0 a = S a) : mkR J M S g s I L R := by
  obtain ⟨⟨a1, a2, a3, a4⟩, b⟩ := h
  exact ⟨⟨a1, a2, fun a ha => ⟨(a3 a ha).1.trans (hf a ha).1, (a3 a ha).2.1.trans (hf a ha).2.1, (a3 a ha).2.2.trans (hf a ha).2.2⟩, a4⟩, b⟩
theorem c_X2_make {d z : Nat} {N : Nat → Nat} {I : Nat → Nat → Int32} {L : Nat → Nat → Int64} {R : Nat → Nat → Option Nat} {Q : qP} {W : Nat ⊕ sg} {g : Nat → Nat} (hN : mkN z N) (hst : qStat (z, N, I, L, R)) {n : Nat} (hn : I 9 1 = nI n) (h200 : n ≤ 200) (hg : gOk g) (hR : (∀ i, i < 5 → R 13 i = some (21 + 4 * i)) ∧ (∀ i, i < 5 → R 12 i = some (g i)) ∧ R 11 4 = some (g 5)) (hW : fmR n (bT I) 0 (sLev 0 false sg00) = W) (hq0 : ∀ f g' s' I' L' R', W = .inl f → f ≤ n → mkR I L R g' s' I' L' R' → qStat (z, N, I', L', R') → Q (some (.int (nI f))) (z, N, I', L', R')) (hq1 : ∀ s' g' I' L' R', W = .inr s' → mkR I L R g' s' I' L' R' → qStat (z, N, I', L', R') → Q (some (.int (-1))) (z, N, I', L', R')) : qWP (d + 9) 25 [.ref 11, .ref 9] (z, N, I, L, R) Q := by
  refine qWP_of m_X2_make rfl rfl [(0, .ref 11), (1, .ref 9)] rfl ?_
  refine qJ_run (qWP_mono _) [18, 31] 400 ?_
  refine ⟨?_, ?_⟩
  · first | exact Or.inl rfl | exact Or.inr rfl | (clear hq0 hq1; grind)
  refine ⟨?_, ?_⟩
  · first | exact Or.inl rfl | exact Or.inr rfl | (clear hq0 hq1; grind)
  refine ⟨?_, ?_⟩
  · exact trivial
  change qJ m_X2_make (qWP _) Q 18 [(0, .ref 11), (1, .ref 9)] [.int 0, .int 0, .ref 11] _ _ (z, N, q2 (q2 I 11 8 0) 11 9 0, L, q2 R 11 5 none)
  refine qJ_run (qWP_mono _) [18, 31] 400 ?_
  refine ⟨⟨Nat.le_refl _, Nat.le_refl _⟩, ?_⟩
  refine c_X2_startLevel0 (d := d + 3) (I0 := I) (L0 := L) (R0 := R) (g := g) (s := sg00) hN hg (fun a ha => ?_) ⟨fun i hi => ?_, fun i hi => ?_, ?_⟩ ?_ ?_ fun I1 L1 hm1 => ?_
  · exact ⟨by rw [q2_ne (by omega), q2_ne (by omega)], rfl, by rw [q2_ne (f := R) (by omega)]⟩
  · rw [q2_ne (by decide)]; exact hR.1 i hi
  · rw [q2_ne (by decide)]; exact hR.2.1 i hi
  · rw [q2_nj (by decide)]; exact hR.2.2
  · exact (q2_nj (by decide)).trans q2_at
  · exact q2_at
  refine ⟨⟨Nat.le_refl _, Nat.le_refl _⟩, ?_⟩
  refine c_X8_size fun v2 hv2 => ?_
  obtain rfl : v2 = nI n := hv2.trans (by rw [(hm1.1.2.2.1 9 (by decide)).1]; exact hn)
  refine qJ_nm (qWP_mono _) [] [(4, .int 0), (3, .int 1), (2, .int (nI n)), (1, .ref 9), (0, .ref 11)] rfl rfl rfl ?_
  exact l_X2_make (d := d) hN hn h200 hq0 hq1 n 0 g (sLev 0 false sg00) I1 L1 _ 1 (by omega) (Nat.zero_le _) hm1 (st_p hst) q2_at hW
