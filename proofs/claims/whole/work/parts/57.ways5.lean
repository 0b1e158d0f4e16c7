/-! texts and ways: six operations -/
theorem sLt_ltR {z : Nat} {N : Nat → Nat} {I : Nat → Nat → Int32} {L : Nat → Nat → Int64} {R : Nat → Nat → Option Nat} (h : RTx z N I L R) {f i : Int32} (hf : 0 ≤ f ∧ f < I 2 5) (hi : 0 ≤ i ∧ i < I 76 f.toNatClampNeg) (k : Int32) : (sLt (I (96 + 2 * f.toNatClampNeg) 1) (L (96 + 2 * f.toNatClampNeg + 1))) i k = ltR (I 75 (200 * f + i).toNatClampNeg) (fun k => I 74 (24 * (200 * f + i).toNatClampNeg + k)) k :=
  cLt_s ((rtx_F h).2.2.2.2 f i hf.1 hf.2 hi.1 hi.2) k
theorem sLt_out {n i k : Int32} {hl : Nat → Int64} (h : ¬ (0 ≤ i ∧ i < n)) : sLt n hl i k = -1 := by
  have ht : txt1 0 0 0 (fun _ => 0) := by
    refine ⟨by decide, by decide, by decide, by decide, by decide, by decide, fun k hk => ⟨?_, fun h9 => absurd h9 (Int32.not_lt.mpr (nI_pos' (by omega)))⟩⟩
    rw [if_neg (Int32.not_lt.mpr (nI_pos' (by omega)))]
    split <;> simp [tx5]
  unfold sLt sHd sTl
  rw [if_neg h, if_neg h, cLt_s ht]
  exact if_neg (by grind)
theorem go_rel {z : Nat} {N : Nat → Nat} {I : Nat → Nat → Int32} {L : Nat → Nat → Int64} {R : Nat → Nat → Option Nat} (h : RTx z N I L R) {f i w : Int32} {my : Nat → Int32} {mf : Int32 → Int32} (hf : 0 ≤ f ∧ f < I 2 5) (hi : 0 ≤ i ∧ i < I 76 f.toNatClampNeg) (hw : 1 ≤ w ∧ w ≤ 24) (hm : ∀ p : Int32, 0 ≤ p → p < w → my p.toNatClampNeg = mf p) : fWy (sLt (I (96 + 2 * f.toNatClampNeg) 1) (L (96 + 2 * f.toNatClampNeg + 1))) my w i = fGo mf (laR (I 75) (I 74) (200 * f + i)) (I 75 (200 * f + i).toNatClampNeg) w := by
  have ht := (rtx_F h).2.2.2.2 f i hf.1 hf.2 hi.1 hi.2
  have hc := (rtx_F h).1
  have hm2 := ((rtx_F h).2.2.2.1 f hf.1 hf.2).2
  have hx := tix (f := f) (i := i) ⟨hf.1, Int32.lt_of_lt_of_le hf.2 hc.2⟩ ⟨hi.1, Int32.lt_of_lt_of_le hi.2 hm2.2⟩
  refine fWy_go hw (txt_sz ht) (fun k k0 k1 => ?_) (fun k k0 => ?_) hm
  · rw [sLt_ltR h hf hi]
    exact onL_la hx.1 ⟨k0, k1⟩ (fun h9 => txt_le ht k0 h9)
  · rw [sLt_ltR h hf hi]
    exact (ltR_n k0 (fun h9 => txt_le ht k0 h9)).1
theorem la_pos {z : Nat} {N : Nat → Nat} {I : Nat → Nat → Int32} {L : Nat → Nat → Int64} {R : Nat → Nat → Option Nat} (h : RTx z N I L R) {f i p : Int32} (hf : 0 ≤ f ∧ f < I 2 5) (hi : 0 ≤ i ∧ i < I 76 f.toNatClampNeg) (hp : 0 ≤ p ∧ p < 24) : 0 ≤ onL ((sLt (I (96 + 2 * f.toNatClampNeg) 1) (L (96 + 2 * f.toNatClampNeg + 1))) i p) ∧ onL ((sLt (I (96 + 2 * f.toNatClampNeg) 1) (L (96 + 2 * f.toNatClampNeg + 1))) i p) = (laR (I 75) (I 74) (200 * f + i)) p := by
  have ht := (rtx_F h).2.2.2.2 f i hf.1 hf.2 hi.1 hi.2
  have hc := (rtx_F h).1
  have hm2 := ((rtx_F h).2.2.2.1 f hf.1 hf.2).2
  have hx := tix (f := f) (i := i) ⟨hf.1, Int32.lt_of_lt_of_le hf.2 hc.2⟩ ⟨hi.1, Int32.lt_of_lt_of_le hi.2 hm2.2⟩
  rw [sLt_ltR h hf hi]
  exact ⟨(ltR_n hp.1 (fun h9 => txt_le ht hp.1 h9)).2, onL_la hx.1 hp (fun h9 => txt_le ht hp.1 h9)⟩
/-- a loop's counter moved -/
theorem upS_shift {σ α : Type} {g : Int32 → σ → Sum σ α} {e : σ → α} {b m : Int32} (hb : 0 ≤ b ∧ b ≤ 2000) (hm : 0 ≤ m ∧ m ≤ 2000) (i : Int32) : ∀ x : σ, 0 ≤ i → i ≤ m → upS (b + m) g e (b + i) x = upS m (fun i => g (b + i)) e i x := by
  refine up_ind m (P := fun i => ∀ x : σ, 0 ≤ i → i ≤ m → upS (b + m) g e (b + i) x = upS m (fun i => g (b + i)) e i x) (fun i ih x h0 h1 => ?_) i
  have hbm : b + i < b + m ↔ i < m := by
    have a0 := i0 hb.1
    have a1 := Int32.le_iff_toInt_le.mp hb.2
    have b0 := i0 hm.1
    have b1 := Int32.le_iff_toInt_le.mp hm.2
    have c0 := i0 h0
    have c1 := Int32.le_iff_toInt_le.mp h1
    rw [show (2000 : Int32).toInt = 2000 from rfl] at a1 b1
    rw [fa_lt, fa_lt, ti_add (by omega), ti_add (by omega)]
    omega
  by_cases h : i < m
  · cases hg : g (b + i) x with
    | inl y =>
      rw [upS_on (hbm.mpr h) hg, upS_on (g := fun i => g (b + i)) h hg, Int32.add_assoc]
      exact ih h y (by clear ih hbm; grind) (by clear ih hbm; grind)
    | inr a => rw [upS_out (hbm.mpr h) hg, upS_out (g := fun i => g (b + i)) h hg]
  · rw [upS_ge (fun h9 => h (hbm.mp h9)), upS_ge h]
def cNew (o m x : Int32) : Int32 := if ¬ m = 0 ∨ x = o then o else -1
theorem gCi_at {lt : Int32 → Int32 → Int32} {m i w : Int32} {e : Nat → Int32} (hw : 0 ≤ w ∧ w ≤ 24) {p : Int32} (hp : 0 ≤ p ∧ p < w) : upF w (gCi lt m i) 0 e p.toNatClampNeg = cNew (onL (lt i p)) m (e p.toNatClampNeg) := by
  have h9 := upF_inv (n := w) (g := gCi lt m i) (fun k (E : Nat → Int32) => ∀ q : Int32, 0 ≤ q → q < w → E q.toNatClampNeg = if q < k then cNew (onL (lt i q)) m (e q.toNatClampNeg) else e q.toNatClampNeg) (fun k E h0 h1 h q q0 q1 => ?_) 0 e (by decide) hw.1 (fun q q0 q1 => by rw [if_neg (Int32.not_lt.mpr q0)])
  · rw [h9 p hp.1 hp.2, if_pos hp.2]
  · unfold gCi
    rw [uI_t q0 h0]
    by_cases hq : q = k
    · subst hq
      have h8 := h q q0 q1
      rw [if_neg (Int32.not_lt.mpr (Int32.le_refl _))] at h8
      rw [if_pos rfl, h8, if_pos (show q < q + 1 by clear h h8; grind)]
      rfl
    · rw [if_neg hq, h q q0 q1]
      by_cases h8 : q < k
      · rw [if_pos h8, if_pos (by clear h; grind)]
      · rw [if_neg h8, if_neg (by clear h; grind)]
/-- what both carry at a place -/
theorem ca_rel {lt : Int32 → Int32 → Int32} {my : Nat → Int32} {go la : Int32 → Int32} {w n b p : Int32} {e : Nat → Int32} (hb : 0 ≤ b ∧ b ≤ 2000) (hn : 0 ≤ n ∧ n ≤ 200) (hw : 0 ≤ w ∧ w ≤ 24) (hp : 0 ≤ p ∧ p < w) (h : ∀ i : Int32, 0 ≤ i → i < n → fWy lt my w i = go (b + i)) (hl : ∀ i : Int32, 0 ≤ i → i < n → 0 ≤ onL (lt i p) ∧ onL (lt i p) = la (b + i)) (he : e p.toNatClampNeg = -1) : fCa lt my w n e p.toNatClampNeg = upS (b + n) (gKr go la) id b (-1) := by
  have hs := upS_shift (g := gKr go la) (e := id) hb ⟨hn.1, Int32.le_trans hn.2 (by decide)⟩ 0 (-1) (by decide) hn.1
  rw [Int32.add_zero] at hs
  rw [hs]
  have hst : ∀ k : Int32, ∀ S : Int32 × (Nat → Int32), 0 ≤ k → k ≤ n → S.1 = 0 ∧ S.2 p.toNatClampNeg = -1 → (upF n (gCa lt my w) k S).2 p.toNatClampNeg = -1 := fun k S k0 k1 hS => by
    refine (upF_inv (n := n) (g := gCa lt my w) (fun _ (S : Int32 × (Nat → Int32)) => S.1 = 0 ∧ S.2 p.toNatClampNeg = -1) (fun k S h0 h1 hS => ?_) k S k0 k1 hS).2
    unfold gCa
    by_cases h9 : fWy lt my w k = 0
    · rw [if_pos h9]; exact hS
    · rw [if_neg h9]
      refine ⟨rfl, ?_⟩
      dsimp only
      rw [gCi_at hw hp, hS.1, hS.2]
      have h8 := (hl k h0 h1).1
      unfold cNew
      rw [if_neg (fun h7 => h7.elim (fun h6 => h6 rfl) (fun h6 => by rw [← h6] at h8; exact absurd h8 (by decide)))]
  refine upS_rel (n := n) (g := fun k S => (.inl (gCa lt my w k S) : Sum (Int32 × (Nat → Int32)) (Int32 × (Nat → Int32)))) (e := id) (g' := fun i => gKr go la (b + i)) (e' := id) (fun k (S : Int32 × (Nat → Int32)) c => 0 ≤ k ∧ k ≤ n ∧ ((S.1 = 1 ∧ c = -1 ∧ S.2 p.toNatClampNeg = -1) ∨ (S.1 = 0 ∧ S.2 p.toNatClampNeg = c ∧ 0 ≤ c))) (fun (S : Int32 × (Nat → Int32)) c => S.2 p.toNatClampNeg = c) (fun k S c hk hP => by
    rcases hP.2.2 with h9 | h9
    · show S.2 _ = c; rw [h9.2.1, h9.2.2]
    · exact h9.2.1) (fun k S c hk hP => ?_) 0 (1, e) (-1) ⟨by decide, hn.1, Or.inl ⟨rfl, rfl, he⟩⟩
  obtain ⟨k0, k1, hP⟩ := hP
  have k2 : 0 ≤ k + 1 ∧ k + 1 ≤ n := by clear h hl hst hP; grind
  have hll := hl k k0 hk
  unfold gKr gCa
  rw [h k k0 hk]
  by_cases h9 : go (b + k) = 0
  · simp only [if_pos h9]; exact ⟨k2.1, k2.2, hP⟩
  · simp only [if_neg h9]
    by_cases h8 : 0 ≤ c ∧ ¬ la (b + k) = c
    · simp only [if_pos h8]
      intro m a ha hm
      rw [ha, hm]
      refine hst (k + 1) _ k2.1 k2.2 ⟨rfl, ?_⟩
      dsimp only
      rw [gCi_at hw hp]
      rcases hP with hP | hP
      · exact absurd h8.1 (by rw [hP.2.1]; decide)
      · rw [hP.1, hP.2.1, hll.2]
        exact if_neg (fun h7 => h7.elim (fun h6 => h6 rfl) (fun h6 => h8.2 h6.symm))
    · simp only [if_neg h8]
      refine ⟨k2.1, k2.2, Or.inr ⟨by first | rfl | trivial, ?_, by rw [← hll.2]; exact hll.1⟩⟩
      rw [gCi_at hw hp, hll.2]
      refine if_pos ?_
      rcases hP with hP | hP
      · exact Or.inl (by rw [hP.1]; decide)
      · refine Or.inr ?_
        rw [hP.2.1]
        exact Decidable.byContradiction fun h7 => h8 ⟨hP.2.2, fun h6 => h7 h6.symm⟩
