theorem bp_b (x : Int32) : x.toInt8.toInt32 &&& 255 = x &&& 255 := by
  apply Int32.toBitVec_inj.mp
  rw [Int32.toBitVec_and, Int32.toBitVec_and, Int8.toBitVec_toInt32, Int32.toBitVec_toInt8]
  apply BitVec.eq_of_getLsbD_eq
  intro i hi
  rw [BitVec.getLsbD_and, BitVec.getLsbD_and]
  have hm : ∀ i < 32, 8 ≤ i → (255 : Int32).toBitVec.getLsbD i = false := by decide
  rcases Nat.lt_or_ge i 8 with z | z
  · rw [BitVec.getLsbD_signExtend, BitVec.getLsbD_signExtend, if_pos z, if_pos hi]
    simp only [z, hi, decide_true, Bool.true_and]
  · rw [hm i hi z]; simp
/-! trays -/
theorem a255 (x : Int32) : 0 ≤ x &&& 255 ∧ x &&& 255 ≤ 255 := by
  have h2 : (x &&& 255).toBitVec.toNat = x.toBitVec.toNat % 256 := by
    have : (x &&& 255).toBitVec = x.toBitVec &&& 255#32 := rfl
    rw [this, BitVec.toNat_and]
    exact Nat.and_two_pow_sub_one_eq_mod _ 8
  have h4 : (x &&& 255).toInt = ((x &&& 255).toBitVec.toNat : Int) := by
    have : (x &&& 255).toInt = (x &&& 255).toBitVec.toInt := rfl
    rw [this, BitVec.toInt_eq_toNat_cond, if_pos (by rw [h2]; omega)]
  rw [fa_le, fa_le, h4, h2, show (0 : Int32).toInt = 0 from rfl, show (255 : Int32).toInt = 255 from rfl]
  omega
def fillR (e : Nat → Int32) (a b : Nat) (v : Int32) : Nat → Int32 := fun i => if a ≤ i ∧ i < b then v else e i
theorem fillR_s {e : Nat → Int32} {a b : Nat} {v : Int32} (h : a < b) : fillR (uI e a v) (a + 1) b v = fillR e a b v := by
  funext i
  unfold fillR uI
  by_cases h1 : a + 1 ≤ i ∧ i < b
  · rw [if_pos h1, if_pos (by omega)]
  · rw [if_neg h1]
    by_cases h2 : i = a
    · rw [if_pos h2, if_pos (by omega)]
    · rw [if_neg h2, if_neg (by omega)]
theorem fillR_e {e : Nat → Int32} {a b : Nat} {v : Int32} (h : b ≤ a) : fillR e a b v = e := by
  funext i
  unfold fillR
  rw [if_neg (by omega)]
theorem upS_rel2 {σ τ α β : Type} {n : Int32} {g : Int32 → σ → Sum σ α} {e : σ → α} {g' : Int32 → τ → Sum τ β} {e' : τ → β} (P : Int32 → σ → τ → Prop) (E : α → β → Prop)
    (he : ∀ x y, P n x y → E (e x) (e' y))
    (hg : ∀ k x y, 0 ≤ k → k < n → P k x y → (∃ x' y', g k x = .inl x' ∧ g' k y = .inl y' ∧ P (k + 1) x' y') ∨ (∃ a b, g k x = .inr a ∧ g' k y = .inr b ∧ E a b)) (k : Int32) : ∀ x y, 0 ≤ k → k ≤ n → P k x y → E (upS n g e k x) (upS n g' e' k y) := by
  refine up_ind n (P := fun k => ∀ x y, 0 ≤ k → k ≤ n → P k x y → E (upS n g e k x) (upS n g' e' k y)) (fun k ih x y h0 h1 h => ?_) k
  by_cases hk : k < n
  · rcases hg k x y h0 hk h with ⟨x', y', e1, e2, h2⟩ | ⟨a, b, e1, e2, h2⟩
    · rw [upS_on hk e1, upS_on hk e2]
      exact ih hk _ _ (by grind) (by grind) h2
    · rw [upS_out hk e1, upS_out hk e2]
      exact h2
  · have : k = n := by grind
    subst this
    rw [upS_ge hk, upS_ge hk]
    exact he x y h
theorem tr_ix {t i : Int32} (ht : 0 ≤ t ∧ t < 4) (hi : 0 ≤ i ∧ i < 40) : (0 ≤ t * 40 + i ∧ t * 40 + i < 160) ∧ 40 * t + i = t * 40 + i ∧ (t * 40 + i).toNatClampNeg = t.toNatClampNeg * 40 + i.toNatClampNeg := by
  obtain ⟨t, ht, rfl⟩ := nI_ofL (x := t) (n := 4) (by decide) ht.1 ht.2
  obtain ⟨i, hi, rfl⟩ := nI_ofL (x := i) (n := 40) (by decide) hi.1 hi.2
  rw [show (40 : Int32) = nI 40 from rfl, nI_mul, nI_mul, nI_add, nI_add, Nat.mul_comm 40 t, nI_clamp (by omega), nI_clamp (by omega), nI_clamp (by omega)]
  refine ⟨⟨nI_pos' (by omega), ?_⟩, rfl, rfl⟩
  show _ < nI 160
  exact (nI_ltI (by omega) (by decide)).mpr (by omega)
theorem tr_e {t : Int32} (ht : 0 ≤ t ∧ t < 4) : (0 ≤ t * 40 ∧ t * 40 < 160) ∧ (0 ≤ (t + 1) * 40 ∧ (t + 1) * 40 ≤ 160) ∧ t * 40 ≤ (t + 1) * 40 ∧ (t * 40).toNatClampNeg = t.toNatClampNeg * 40 ∧ ((t + 1) * 40).toNatClampNeg = t.toNatClampNeg * 40 + 40 ∧ 40 * t = t * 40 ∧ (t * 40 + 40).toNatClampNeg = t.toNatClampNeg * 40 + 40 ∧ t.toNatClampNeg < 4 := by
  obtain ⟨t, ht2, rfl⟩ := nI_ofL (x := t) (n := 4) (by decide) ht.1 ht.2
  have : ∀ t < 4, (0 ≤ nI t * 40 ∧ nI t * 40 < 160) ∧ (0 ≤ (nI t + 1) * 40 ∧ (nI t + 1) * 40 ≤ 160) ∧ nI t * 40 ≤ (nI t + 1) * 40 ∧ (nI t * 40).toNatClampNeg = (nI t).toNatClampNeg * 40 ∧ ((nI t + 1) * 40).toNatClampNeg = (nI t).toNatClampNeg * 40 + 40 ∧ 40 * nI t = nI t * 40 ∧ (nI t * 40 + 40).toNatClampNeg = (nI t).toNatClampNeg * 40 + 40 ∧ (nI t).toNatClampNeg < 4 := by decide +kernel
  exact this t ht2
theorem ti_add {a b : Int32} (h : -2147483648 ≤ a.toInt + b.toInt ∧ a.toInt + b.toInt < 2147483648) : (a + b).toInt = a.toInt + b.toInt := by
  rw [Int32.toInt_add]; exact Int.bmod_eq_of_le (by omega) (by omega)
theorem ti_sub {a b : Int32} (h : -2147483648 ≤ a.toInt - b.toInt ∧ a.toInt - b.toInt < 2147483648) : (a - b).toInt = a.toInt - b.toInt := by
  rw [Int32.toInt_sub]; exact Int.bmod_eq_of_le (by omega) (by omega)
theorem fp_rng {f p z : Int32} (h1 : ¬ f < 0) (hp : 0 ≤ p ∧ p < 24) (hz : -1 ≤ z ∧ z ≤ 40) (h3 : ¬ z - p ≤ f) : (0 ≤ f + p ∧ f + p < 40) ∧ f + p < z ∧ (f + p).toInt = f.toInt + p.toInt := by
  simp only [fa_lt, fa_le] at *
  rw [show (0 : Int32).toInt = 0 from rfl] at *
  rw [show (-1 : Int32).toInt = -1 from rfl] at *
  rw [show (40 : Int32).toInt = 40 from rfl] at *
  rw [show (24 : Int32).toInt = 24 from rfl] at *
  have e1 := ti_sub (a := z) (b := p) (by omega)
  rw [e1] at h3
  have e2 := ti_add (a := f) (b := p) (by omega)
  rw [e2]
  omega
theorem RTr_put {sz sz' b b' : Nat → Int32} {t n : Int32} (h : RTr sz sz' b b') (ht : 0 ≤ t ∧ t < 4) (hn : -1 ≤ n ∧ n ≤ 40) : RTr (uI sz t.toNatClampNeg n) (uI sz' t.toNatClampNeg n) (fillR b (t * 40).toNatClampNeg ((t + 1) * 40).toNatClampNeg 0) (fillR b' (t * 40).toNatClampNeg (t * 40 + 40).toNatClampNeg 0) := by
  obtain ⟨h1, h2⟩ := h
  obtain ⟨_, _, _, e1, e2, _, e4, _⟩ := tr_e ht
  refine ⟨fun x h0 hx => ?_, fun j hj => ?_⟩
  · rw [uI_t h0 ht.1, uI_t h0 ht.1]
    by_cases e : x = t
    · simp only [if_pos e]; exact ⟨trivial, hn⟩
    · simp only [if_neg e]; exact h1 x h0 hx
  · rw [e1, e2, e4]
    unfold fillR
    by_cases e : t.toNatClampNeg * 40 ≤ j ∧ j < t.toNatClampNeg * 40 + 40
    · simp only [if_pos e]; decide
    · simp only [if_neg e]; exact h2 j hj
theorem RTr_cell {sz sz' b b' : Nat → Int32} {v : Int32} {j : Nat} (h : RTr sz sz' b b') : RTr sz sz' (uI b j (vp_nar .byte v.toInt8.toInt32)) (uI b' j (v &&& 255)) := by
  obtain ⟨h1, h2⟩ := h
  refine ⟨h1, fun i hi => ?_⟩
  by_cases e : i = j
  · subst e
    rw [uI_at, uI_at, pk_vb, bp_b]
    exact ⟨rfl, a255 v⟩
  · rw [uI_nj e, uI_nj e]; exact h2 i hi
theorem l_fill_42 {d z : Nat} {N : Nat → Nat} {I : Nat → Nat → Int32} {L : Nat → Nat → Int64} {R : Nat → Nat → Option Nat} {Q : qP} {y : Int32} (hlt : 42 < z + 2) : ∀ (k : Int32), ∀ e : Nat → Int32, 0 ≤ k → k ≤ 24 → Q none (z, N, qRow I 42 (fillR e k.toNatClampNeg 24 y), L, R) → qJ m_J7_fill_53178 (qWP (d + 0)) Q 5 [(3, .int 24), (2, .int k), (1, .int y), (0, .ref 42)] [] 0 0 (z, N, qRow I 42 e, L, R) := by
  refine up_ind (24) fun k ih => ?_
  intro e h0 h1 hq
  refine qJ_run (qWP_mono _) [5, 14] 400 ?_
  refine ⟨fun (c1 : 24 ≤ k) => ?_, fun (c1 : ¬ 24 ≤ k) => ?_⟩
  · change Q none (z, N, qRow I 42 e, L, R)
    rw [show k = 24 from by clear ih hq; grind] at hq
    rw [fillR_e (by decide)] at hq
    exact hq
  · refine ⟨hlt, ?_⟩
    refine ⟨?_, ?_⟩
    · exact vb (x := k) (N := 24) 24 (by decide) (by clear ih hq; grind) (by clear ih hq; grind)
    refine qJ_M (M2 := (z, N, qRow I 42 (uI e ((k).toNatClampNeg) y), L, R)) (by (try dsimp only); (simp (decide := true) only [q2_qRow, q2_qRow2, q2_qRow3]) <;> rfl) ?_
    change qJ m_J7_fill_53178 (qWP _) Q 14 [(3, .int 24), (2, .int k), (1, .int y), (0, .ref 42)] [] _ _ (z, N, qRow I 42 (uI e ((k).toNatClampNeg) y), L, R)
    refine qJ_run (qWP_mono _) [5, 14] 400 ?_
    refine qJ_nm (qWP_mono _) [] [(3, .int 24), (2, .int (k + 1)), (1, .int y), (0, .ref 42)] rfl rfl rfl ?_
    have hk : k < 24 := by clear ih hq; grind
    refine ih hk _ (by clear ih hq; grind) (by clear ih hq; grind) ?_
    rw [tn1 h0 (by clear ih hq; grind), fillR_s (by rw [tcn]; have := Int32.lt_iff_toInt_lt.mp hk; have e9 : (24 : Int32).toInt = 24 := rfl; have := i0 h0; omega)]
    exact hq
theorem c_fill_42 {d z : Nat} {N : Nat → Nat} {I : Nat → Nat → Int32} {L : Nat → Nat → Int64} {R : Nat → Nat → Option Nat} {Q : qP} {y : Int32} (hlt : 42 < z + 2) (h : Q none (z, N, qRow I 42 (fun i => if i < 24 then y else I 42 i), L, R)) : qWP (d + 1) 249 [.ref 42, .int y] (z, N, I, L, R) Q := by
  refine qWP_of m_J7_fill_53178 rfl rfl [(0, .ref 42), (1, .int y)] rfl ?_
  refine qJ_run (qWP_mono _) [5] 400 ?_
  refine ⟨hlt, ?_⟩
  refine qJ_nm (qWP_mono _) [] [(3, .int 24), (2, .int 0), (1, .int y), (0, .ref 42)] rfl rfl rfl ?_
  refine qJ_M (M2 := (z, N, qRow I 42 (I 42), L, R)) (by rw [qRow_self]) ?_
  refine l_fill_42 (d := d) hlt 0 _ (by decide) (by decide) ?_
  rw [show fillR (I 42) (0 : Int32).toNatClampNeg 24 y = (fun i => if i < 24 then y else I 42 i) from by funext i; simp [fillR]]
  exact h
theorem l_fill_45 {d z : Nat} {N : Nat → Nat} {I : Nat → Nat → Int32} {L : Nat → Nat → Int64} {R : Nat → Nat → Option Nat} {Q : qP} {y : Int32} (hlt : 45 < z + 2) : ∀ (k : Int32), ∀ e : Nat → Int32, 0 ≤ k → k ≤ 24 → Q none (z, N, qRow I 45 (fillR e k.toNatClampNeg 24 y), L, R) → qJ m_J7_fill_53178 (qWP (d + 0)) Q 5 [(3, .int 24), (2, .int k), (1, .int y), (0, .ref 45)] [] 0 0 (z, N, qRow I 45 e, L, R) := by
  refine up_ind (24) fun k ih => ?_
  intro e h0 h1 hq
  refine qJ_run (qWP_mono _) [5, 14] 400 ?_
  refine ⟨fun (c1 : 24 ≤ k) => ?_, fun (c1 : ¬ 24 ≤ k) => ?_⟩
  · change Q none (z, N, qRow I 45 e, L, R)
    rw [show k = 24 from by clear ih hq; grind] at hq
    rw [fillR_e (by decide)] at hq
    exact hq
  · refine ⟨hlt, ?_⟩
    refine ⟨?_, ?_⟩
    · exact vb (x := k) (N := 24) 24 (by decide) (by clear ih hq; grind) (by clear ih hq; grind)
    refine qJ_M (M2 := (z, N, qRow I 45 (uI e ((k).toNatClampNeg) y), L, R)) (by (try dsimp only); (simp (decide := true) only [q2_qRow, q2_qRow2, q2_qRow3]) <;> rfl) ?_
    change qJ m_J7_fill_53178 (qWP _) Q 14 [(3, .int 24), (2, .int k), (1, .int y), (0, .ref 45)] [] _ _ (z, N, qRow I 45 (uI e ((k).toNatClampNeg) y), L, R)
    refine qJ_run (qWP_mono _) [5, 14] 400 ?_
    refine qJ_nm (qWP_mono _) [] [(3, .int 24), (2, .int (k + 1)), (1, .int y), (0, .ref 45)] rfl rfl rfl ?_
    have hk : k < 24 := by clear ih hq; grind
    refine ih hk _ (by clear ih hq; grind) (by clear ih hq; grind) ?_
    rw [tn1 h0 (by clear ih hq; grind), fillR_s (by rw [tcn]; have := Int32.lt_iff_toInt_lt.mp hk; have e9 : (24 : Int32).toInt = 24 := rfl; have := i0 h0; omega)]
    exact hq
theorem c_fill_45 {d z : Nat} {N : Nat → Nat} {I : Nat → Nat → Int32} {L : Nat → Nat → Int64} {R : Nat → Nat → Option Nat} {Q : qP} {y : Int32} (hlt : 45 < z + 2) (h : Q none (z, N, qRow I 45 (fun i => if i < 24 then y else I 45 i), L, R)) : qWP (d + 1) 249 [.ref 45, .int y] (z, N, I, L, R) Q := by
  refine qWP_of m_J7_fill_53178 rfl rfl [(0, .ref 45), (1, .int y)] rfl ?_
  refine qJ_run (qWP_mono _) [5] 400 ?_
  refine ⟨hlt, ?_⟩
  refine qJ_nm (qWP_mono _) [] [(3, .int 24), (2, .int 0), (1, .int y), (0, .ref 45)] rfl rfl rfl ?_
  refine qJ_M (M2 := (z, N, qRow I 45 (I 45), L, R)) (by rw [qRow_self]) ?_
  refine l_fill_45 (d := d) hlt 0 _ (by decide) (by decide) ?_
  rw [show fillR (I 45) (0 : Int32).toNatClampNeg 24 y = (fun i => if i < 24 then y else I 45 i) from by funext i; simp [fillR]]
  exact h
theorem l_fill_63 {d z : Nat} {N : Nat → Nat} {I : Nat → Nat → Int32} {L : Nat → Nat → Int64} {R : Nat → Nat → Option Nat} {Q : qP} {y f t : Int32} (hlt : 63 < z + 2) (hf : 0 ≤ f) (ht : t ≤ 160) : ∀ (k : Int32), ∀ e : Nat → Int32, 0 ≤ k → k ≤ t → Q none (z, N, qRow I 63 (fillR e k.toNatClampNeg t.toNatClampNeg (vp_nar .byte y)), L, R) → qJ m_J7_fill_eb02e (qWP (d + 1)) Q 10 [(4, .int k), (3, .int y), (2, .int t), (1, .int f), (0, .ref 63)] [] 0 0 (z, N, qRow I 63 e, L, R) := by
  refine up_ind (t) fun k ih => ?_
  intro e h0 h1 hq
  refine qJ_run (qWP_mono _) [10, 21] 400 ?_
  refine ⟨fun (c1 : t ≤ k) => ?_, fun (c1 : ¬ t ≤ k) => ?_⟩
  · change Q none (z, N, qRow I 63 e, L, R)
    rw [show k = t from by clear ih hq; grind] at hq
    rw [fillR_e (Nat.le_refl _)] at hq
    exact hq
  · refine ⟨hlt, ?_⟩
    refine ⟨?_, ?_⟩
    · exact vb (x := k) (N := 160) 160 (by decide) (by clear ih hq; grind) (by clear ih hq; grind)
    refine qJ_M (M2 := (z, N, qRow I 63 (uI e ((k).toNatClampNeg) (vp_nar .byte y)), L, R)) (by (try dsimp only); (simp (decide := true) only [q2_qRow, q2_qRow2, q2_qRow3]) <;> rfl) ?_
    change qJ m_J7_fill_eb02e (qWP _) Q 21 [(4, .int k), (3, .int y), (2, .int t), (1, .int f), (0, .ref 63)] [] _ _ (z, N, qRow I 63 (uI e ((k).toNatClampNeg) (vp_nar .byte y)), L, R)
    refine qJ_run (qWP_mono _) [10, 21] 400 ?_
    have hk : k < t := by clear ih hq; grind
    refine ih hk _ (by clear ih hq; grind) (by clear ih hq; grind) ?_
    rw [tn1 h0 (by clear ih hq; grind), fillR_s (by rw [tcn, tcn]; have := Int32.lt_iff_toInt_lt.mp hk; have := i0 h0; omega)]
    exact hq
theorem c_J7_rangeCheck_23922 {d z : Nat} {N : Nat → Nat} {I : Nat → Nat → Int32} {L : Nat → Nat → Int64} {R : Nat → Nat → Option Nat} {Q : qP} {n f t : Int32} (h1 : f ≤ t) (h2 : 0 ≤ f) (h3 : t ≤ n) (h : Q none (z, N, I, L, R)) : qWP (d + 1) 248 [.int n, .int f, .int t] (z, N, I, L, R) Q := by
  refine qWP_of m_J7_rangeCheck_23922 rfl rfl [(0, .int n), (1, .int f), (2, .int t)] rfl ?_
  refine qJ_run (qWP_mono _) [] 400 ?_
  refine br_t (show f ≤ t from h1) ?_
  refine br_t (show 0 ≤ f from h2) ?_
  refine br_t (show t ≤ n from h3) ?_
  change Q none (z, N, I, L, R)
  exact h
theorem c_fill_63 {d z : Nat} {N : Nat → Nat} {I : Nat → Nat → Int32} {L : Nat → Nat → Int64} {R : Nat → Nat → Option Nat} {Q : qP} {y f t : Int32} (hlt : 63 < z + 2) (hf : 0 ≤ f) (hft : f ≤ t) (ht : t ≤ 160) (h : Q none (z, N, qRow I 63 (fillR (I 63) f.toNatClampNeg t.toNatClampNeg (vp_nar .byte y)), L, R)) : qWP (d + 2) 250 [.ref 63, .int f, .int t, .int y] (z, N, I, L, R) Q := by
  refine qWP_of m_J7_fill_eb02e rfl rfl [(0, .ref 63), (1, .int f), (2, .int t), (3, .int y)] rfl ?_
  refine qJ_run (qWP_mono _) [10] 400 ?_
  refine ⟨hlt, ?_⟩
  refine ⟨⟨Nat.le_refl _, Nat.le_refl _⟩, ?_⟩
  refine c_J7_rangeCheck_23922 hft hf ht ?_
  refine qJ_nm (qWP_mono _) [] [(4, .int f), (3, .int y), (2, .int t), (1, .int f), (0, .ref 63)] rfl rfl rfl ?_
  refine qJ_M (M2 := (z, N, qRow I 63 (I 63), L, R)) (by rw [qRow_self]) ?_
  exact l_fill_63 (d := d) hlt hf ht f _ hf hft h
theorem c_X10_put {d z : Nat} {N : Nat → Nat} {I : Nat → Nat → Int32} {L : Nat → Nat → Int64} {R : Nat → Nat → Option Nat} {Q : qP} {t : Int32} {n : Int32} (ht : 0 ≤ t ∧ t < 4) (hst : qStat (z, N, I, L, R)) (h : Q none (z, N, qRow (q2 I 64 t.toNatClampNeg n) 63 (fillR (I 63) (t * 40).toNatClampNeg ((t + 1) * 40).toNatClampNeg 0), L, R)) : qWP (d + 3) 118 [.ref 62, .int t, .int n] (z, N, I, L, R) Q := by
  refine qWP_of m_X10_put rfl rfl [(0, .ref 62), (1, .int t), (2, .int n)] rfl ?_
  refine qJ_run (qWP_mono _) [] 400 ?_
  refine ⟨⟨Nat.le_refl _, Nat.le_refl _⟩, ?_⟩
  refine c_X10_has fun v1 hv1 => ?_
  refine ⟨fun (c1 : v1 = 0) => ?_, fun (c1 : ¬ v1 = 0) => ?_⟩
  · change Q none (z, N, I, L, R)
    exact absurd ht (by clear h; grind)
  · refine ⟨?_, ?_⟩
    · exact vb (x := t) (N := 4) 4 (by decide) (by clear h; grind) (by clear h; grind)
    refine ⟨⟨Nat.le_refl _, Nat.le_refl _⟩, ?_⟩
    obtain ⟨g1, g2, g3, _⟩ := tr_e ht
    refine c_fill_63 (Nat.lt_of_lt_of_le (by decide) hst.1) g1.1 g3 g2.2 ⟨hst, ?_⟩
    change Q none (z, N, qRow (q2 I 64 t.toNatClampNeg n) 63 (fillR (I 63) (t * 40).toNatClampNeg ((t + 1) * 40).toNatClampNeg 0), L, R)
    exact h
theorem c_X10_set {d z : Nat} {N : Nat → Nat} {I : Nat → Nat → Int32} {L : Nat → Nat → Int64} {R : Nat → Nat → Option Nat} {Q : qP} {t : Int32} {i : Int32} {y : Int32} (ht : 0 ≤ t ∧ t < 4) (hz : -1 ≤ I 64 t.toNatClampNeg ∧ I 64 t.toNatClampNeg ≤ 40) (h0 : ¬ (0 ≤ i ∧ i < I 64 t.toNatClampNeg) → Q (some (.int 0)) (z, N, I, L, R)) (h1 : 0 ≤ i → i < I 64 t.toNatClampNeg → Q (some (.int 1)) (z, N, q2 I 63 (t * 40 + i).toNatClampNeg (vp_nar .byte y.toInt8.toInt32), L, R)) : qWP (d + 3) 119 [.ref 62, .int t, .int i, .int y] (z, N, I, L, R) Q := by
  refine qWP_of m_X10_set rfl rfl [(0, .ref 62), (1, .int t), (2, .int i), (3, .int y)] rfl ?_
  refine qJ_run (qWP_mono _) [] 400 ?_
  refine ⟨⟨Nat.le_refl _, Nat.le_refl _⟩, ?_⟩
  refine c_X10_has fun v1 hv1 => ?_
  refine ⟨fun (c1 : v1 = 0) => ?_, fun (c1 : ¬ v1 = 0) => ?_⟩
  · refine ⟨by first | exact Or.inl rfl | exact Or.inr rfl | (clear h0 h1; grind), ?_⟩
    change Q (some (.int 0)) (z, N, I, L, R)
    exact h0 (by clear h0 h1; grind)
  · refine ⟨fun (c2 : i < 0) => ?_, fun (c2 : ¬ i < 0) => ?_⟩
    · refine ⟨by first | exact Or.inl rfl | exact Or.inr rfl | (clear h0 h1; grind), ?_⟩
      change Q (some (.int 0)) (z, N, I, L, R)
      exact h0 (by clear h0 h1; grind)
    · refine ⟨⟨Nat.le_refl _, Nat.le_refl _⟩, ?_⟩
      refine c_X10_sizeOf fun v2 hv2 => ?_
      refine ⟨fun (c3 : v2 ≤ i) => ?_, fun (c3 : ¬ v2 ≤ i) => ?_⟩
      · refine ⟨by first | exact Or.inl rfl | exact Or.inr rfl | (clear h0 h1; grind), ?_⟩
        change Q (some (.int 0)) (z, N, I, L, R)
        exact h0 (by clear h0 h1; grind)
      · refine ⟨fun (c4 : i < 40) => ?_, fun (c4 : ¬ i < 40) => ?_⟩
        · refine ⟨?_, ?_⟩
          · exact vb (N := 160) 160 (by decide) (tr_ix ht (by clear h0 h1; grind)).1.1 (tr_ix ht (by clear h0 h1; grind)).1.2
          refine ⟨by first | exact Or.inl rfl | exact Or.inr rfl | (clear h0 h1; grind), ?_⟩
          change Q (some (.int 1)) (z, N, q2 I 63 (((t * 40) + i).toNatClampNeg) (vp_nar .byte ((y).toInt8.toInt32)), L, R)
          exact h1 (by clear h0 h1; grind) (by clear h0 h1; grind)
        · refine ⟨by first | exact Or.inl rfl | exact Or.inr rfl | (clear h0 h1; grind), ?_⟩
          change Q (some (.int 0)) (z, N, I, L, R)
          exact h0 (by clear h0 h1; grind)
theorem c_X10_byteAt {d z : Nat} {N : Nat → Nat} {I : Nat → Nat → Int32} {L : Nat → Nat → Int64} {R : Nat → Nat → Option Nat} {Q : qP} {t : Int32} {f : Int32} {p : Int32} (ht : 0 ≤ t ∧ t < 4) (hz : -1 ≤ I 64 t.toNatClampNeg ∧ I 64 t.toNatClampNeg ≤ 40) (hp : 0 ≤ p ∧ p < 24) (h : ∀ v : Int32, v = (if f < 0 ∨ I 64 t.toNatClampNeg - p ≤ f then -1 else I 63 (t * 40 + f + p).toNatClampNeg &&& 255) → Q (some (.int v)) (z, N, I, L, R)) : qWP (d + 3) 120 [.ref 62, .int t, .int f, .int p] (z, N, I, L, R) Q := by
  refine qWP_of m_X10_byteAt rfl rfl [(0, .ref 62), (1, .int t), (2, .int f), (3, .int p)] rfl ?_
  refine qJ_run (qWP_mono _) [] 400 ?_
  refine ⟨⟨Nat.le_refl _, Nat.le_refl _⟩, ?_⟩
  refine c_X10_sizeOf fun v1 hv1 => ?_
  refine ⟨fun (c1 : f < 0) => ?_, fun (c1 : ¬ f < 0) => ?_⟩
  · change Q (some (.int (-1))) (z, N, I, L, R)
    rw [if_pos ht] at hv1
    rw [hv1] at *
    first | exact h _ (if_pos (by clear h; first | exact Or.inl (by assumption) | exact Or.inr (by assumption) | (exfalso; grind))).symm | exact h _ (if_neg (by clear h; intro hh; rcases hh with hh | hh <;> contradiction)).symm
  · refine ⟨fun (c2 : p < 0) => ?_, fun (c2 : ¬ p < 0) => ?_⟩
    · change Q (some (.int (-1))) (z, N, I, L, R)
      rw [if_pos ht] at hv1
      rw [hv1] at *
      first | exact h _ (if_pos (by clear h; first | exact Or.inl (by assumption) | exact Or.inr (by assumption) | (exfalso; grind))).symm | exact h _ (if_neg (by clear h; intro hh; rcases hh with hh | hh <;> contradiction)).symm
    · refine ⟨fun (c3 : (v1 - p) ≤ f) => ?_, fun (c3 : ¬ (v1 - p) ≤ f) => ?_⟩
      · change Q (some (.int (-1))) (z, N, I, L, R)
        rw [if_pos ht] at hv1
        rw [hv1] at *
        first | exact h _ (if_pos (by clear h; first | exact Or.inl (by assumption) | exact Or.inr (by assumption) | (exfalso; grind))).symm | exact h _ (if_neg (by clear h; intro hh; rcases hh with hh | hh <;> contradiction)).symm
      · refine ⟨fun (c4 : v1 ≤ 40) => ?_, fun (c4 : ¬ v1 ≤ 40) => ?_⟩
        · refine ⟨?_, ?_⟩
          · have hr := fp_rng (f := f) (z := I 64 t.toNatClampNeg) (by clear h; assumption) hp hz (by clear h; rw [hv1, if_pos ht] at c3; exact c3)
            have g := tr_ix (i := f + p) ht hr.1
            have e9 : t * 40 + (f + p) = t * 40 + f + p := by clear h hr g; grind
            rw [e9] at g
            exact vb (N := 160) 160 (by decide) g.1.1 g.1.2
          change Q (some (.int ((I 63 ((((t * 40) + f) + p).toNatClampNeg)) &&& 255))) (z, N, I, L, R)
          rw [if_pos ht] at hv1
          rw [hv1] at *
          first | exact h _ (if_pos (by clear h; first | exact Or.inl (by assumption) | exact Or.inr (by assumption) | (exfalso; grind))).symm | exact h _ (if_neg (by clear h; intro hh; rcases hh with hh | hh <;> contradiction)).symm
        · change Q (some (.int (-1))) (z, N, I, L, R)
          rw [if_pos ht] at hv1
          rw [hv1] at *
          first | exact h _ (if_pos (by clear h; first | exact Or.inl (by assumption) | exact Or.inr (by assumption) | (exfalso; grind))).symm | exact h _ (if_neg (by clear h; intro hh; rcases hh with hh | hh <;> contradiction)).symm
theorem c_X11_tray {d z : Nat} {N : Nat → Nat} {I : Nat → Nat → Int32} {L : Nat → Nat → Int64} {R : Nat → Nat → Option Nat} {Q : qP} {t : Int32} {n : Int32} (hst : qStat (z, N, I, L, R)) (h0 : (¬ (0 ≤ t ∧ t < 4) ∨ 40 < n) → Q (some (.int (-2))) (z, N, I, L, R)) (h1 : ¬ (¬ (0 ≤ t ∧ t < 4) ∨ 40 < n) → n < -1 → Q (some (.int (-14))) (z, N, I, L, R)) (h2 : ¬ (¬ (0 ≤ t ∧ t < 4) ∨ 40 < n) → -1 ≤ n → Q (some (.int 1)) (z, N, qRow (q2 I 64 t.toNatClampNeg n) 63 (fillR (I 63) (t * 40).toNatClampNeg ((t + 1) * 40).toNatClampNeg 0), L, R)) : qWP (d + 4) 162 [.ref 2, .int t, .int n] (z, N, I, L, R) Q := by
  refine qWP_of m_X11_tray rfl rfl [(0, .ref 2), (1, .int t), (2, .int n)] rfl ?_
  refine qJ_run (qWP_mono _) [] 400 ?_
  refine ⟨⟨Nat.le_refl _, Nat.le_refl _⟩, ?_⟩
  refine c_X10_has fun v1 hv1 => ?_
  refine ⟨fun (c1 : v1 = 0) => ?_, fun (c1 : ¬ v1 = 0) => ?_⟩
  · change Q (some (.int (-2))) (z, N, I, L, R)
    exact h0 (by clear h0 h1 h2; grind)
  · refine ⟨fun (c2 : n ≤ 40) => ?_, fun (c2 : ¬ n ≤ 40) => ?_⟩
    · refine ⟨fun (c3 : (-1) ≤ n) => ?_, fun (c3 : ¬ (-1) ≤ n) => ?_⟩
      · refine ⟨⟨Nat.le_refl _, Nat.le_refl _⟩, ?_⟩
        refine c_X10_put (by clear h0 h1 h2; grind) hst ?_
        change Q (some (.int 1)) (z, N, qRow (q2 I 64 t.toNatClampNeg n) 63 (fillR (I 63) (t * 40).toNatClampNeg ((t + 1) * 40).toNatClampNeg 0), L, R)
        exact h2 (by clear h0 h1 h2; grind) (by clear h0 h1 h2; grind)
      · change Q (some (.int (-14))) (z, N, I, L, R)
        exact h1 (by clear h0 h1 h2; grind) (by clear h0 h1 h2; grind)
    · change Q (some (.int (-2))) (z, N, I, L, R)
      exact h0 (by clear h0 h1 h2; grind)
theorem l_X12_tray {d z : Nat} {N : Nat → Nat} {I : Nat → Nat → Int32} {L : Nat → Nat → Int64} {R : Nat → Nat → Option Nat} {Q : qP} {t n : Int32} (ht : 0 ≤ t ∧ t < 4) : ∀ (k : Int32), ∀ e : Nat → Int32, 0 ≤ k → k ≤ 40 → Q (some (.int 1)) (z, N, qRow I 95 (fillR e (t * 40 + k).toNatClampNeg (t * 40 + 40).toNatClampNeg 0), L, R) → qJ m_X12_tray (qWP (d + 3)) Q 34 [(3, .int k), (2, .int n), (1, .int t), (0, .ref 65)] [] 0 0 (z, N, qRow I 95 e, L, R) := by
  refine up_ind (40) fun k ih => ?_
  intro e h0 h1 hq
  refine qJ_run (qWP_mono _) [34, 52] 400 ?_
  refine ⟨fun (c1 : 40 ≤ k) => ?_, fun (c1 : ¬ 40 ≤ k) => ?_⟩
  · change Q (some (.int 1)) (z, N, qRow I 95 e, L, R)
    rw [show k = 40 from by clear ih hq; grind] at hq
    rw [fillR_e (Nat.le_refl _)] at hq
    exact hq
  · refine ⟨?_, ?_⟩
    · have g := tr_ix (i := k) ht (by clear ih hq; grind)
      rw [← g.2.1] at g
      exact vb (N := 160) 160 (by decide) g.1.1 g.1.2
    refine qJ_M (M2 := (z, N, qRow I 95 (uI e (((40 * t) + k).toNatClampNeg) 0), L, R)) (by (try dsimp only); (simp (decide := true) only [q2_qRow, q2_qRow2, q2_qRow3]) <;> rfl) ?_
    change qJ m_X12_tray (qWP _) Q 52 [(3, .int k), (2, .int n), (1, .int t), (0, .ref 65)] [] _ _ (z, N, qRow I 95 (uI e (((40 * t) + k).toNatClampNeg) 0), L, R)
    refine qJ_run (qWP_mono _) [34, 52] 400 ?_
    have hk : k < 40 := by clear ih hq; grind
    have g := tr_ix (i := k) ht ⟨h0, hk⟩
    have g4 := tr_e ht
    refine ih hk _ (by clear ih hq; grind) (by clear ih hq; grind) ?_
    rw [g4.2.2.2.2.2.1, show t * 40 + (k + 1) = t * 40 + k + 1 from by grind, tn1 g.1.1 (by clear ih hq; grind), fillR_s (by rw [g.2.2, g4.2.2.2.2.2.2.1, tcn k]; have := Int32.lt_iff_toInt_lt.mp hk; have e9 : (40 : Int32).toInt = 40 := rfl; have := i0 h0; omega)]
    exact hq
theorem c_X12_tray {d z : Nat} {N : Nat → Nat} {I : Nat → Nat → Int32} {L : Nat → Nat → Int64} {R : Nat → Nat → Option Nat} {Q : qP} {t : Int32} {n : Int32}  (h0 : (¬ (0 ≤ t ∧ t < 4) ∨ 40 < n) → Q (some (.int (-2))) (z, N, I, L, R)) (h1 : ¬ (¬ (0 ≤ t ∧ t < 4) ∨ 40 < n) → n < -1 → Q (some (.int (-14))) (z, N, I, L, R)) (h2 : ¬ (¬ (0 ≤ t ∧ t < 4) ∨ 40 < n) → -1 ≤ n → Q (some (.int 1)) (z, N, qRow (q2 I 94 t.toNatClampNeg n) 95 (fillR (I 95) (t * 40).toNatClampNeg (t * 40 + 40).toNatClampNeg 0), L, R)) : qWP (d + 4) 242 [.ref 65, .int t, .int n] (z, N, I, L, R) Q := by
  refine qWP_of m_X12_tray rfl rfl [(0, .ref 65), (1, .int t), (2, .int n)] rfl ?_
  refine qJ_run (qWP_mono _) [34] 400 ?_
  refine ⟨⟨Nat.le_refl _, Nat.le_refl _⟩, ?_⟩
  refine c_X12_isIn fun v1 hv1 => ?_
  refine ⟨fun (c1 : v1 = 0) => ?_, fun (c1 : ¬ v1 = 0) => ?_⟩
  · change Q (some (.int (-2))) (z, N, I, L, R)
    exact h0 (by clear h0 h1 h2; grind)
  · refine ⟨fun (c2 : n ≤ 40) => ?_, fun (c2 : ¬ n ≤ 40) => ?_⟩
    · refine ⟨fun (c3 : (-1) ≤ n) => ?_, fun (c3 : ¬ (-1) ≤ n) => ?_⟩
      · refine ⟨?_, ?_⟩
        · exact vb (x := t) (N := 4) 4 (by decide) (by clear h0 h1 h2; grind) (by clear h0 h1 h2; grind)
        refine qJ_nm (qWP_mono _) [] [(3, .int 0), (2, .int n), (1, .int t), (0, .ref 65)] rfl rfl rfl ?_
        have ht : 0 ≤ t ∧ t < 4 := by clear h0 h1 h2; grind
        refine qJ_M (M2 := (z, N, qRow (q2 I 94 t.toNatClampNeg n) 95 (I 95), L, R)) (by dsimp only; rw [show I 95 = q2 I 94 t.toNatClampNeg n 95 from (q2_ne (by decide)).symm, qRow_self]) ?_
        refine l_X12_tray (d := d) ht 0 _ (by decide) (by decide) ?_
        rw [show t * 40 + 0 = t * 40 from by grind]
        exact h2 (by clear h0 h1 h2; grind) (by clear h0 h1 h2; grind)
      · change Q (some (.int (-14))) (z, N, I, L, R)
        exact h1 (by clear h0 h1 h2; grind) (by clear h0 h1 h2; grind)
    · change Q (some (.int (-2))) (z, N, I, L, R)
      exact h0 (by clear h0 h1 h2; grind)
theorem c_X11_cell {d z : Nat} {N : Nat → Nat} {I : Nat → Nat → Int32} {L : Nat → Nat → Int64} {R : Nat → Nat → Option Nat} {Q : qP} {t : Int32} {i : Int32} {y : Int32} (hz : ∀ x : Int32, 0 ≤ x → x < 4 → -1 ≤ I 64 x.toNatClampNeg ∧ I 64 x.toNatClampNeg ≤ 40) (h0 : ¬ (0 ≤ t ∧ t < 4) → Q (some (.int (-2))) (z, N, I, L, R)) (h1 : (0 ≤ t ∧ t < 4) → I 64 t.toNatClampNeg < 0 → Q (some (.int (-11))) (z, N, I, L, R)) (h2 : (0 ≤ t ∧ t < 4) → 0 ≤ I 64 t.toNatClampNeg → ¬ (0 ≤ i ∧ i < I 64 t.toNatClampNeg) → Q (some (.int (-12))) (z, N, I, L, R)) (h3 : (0 ≤ t ∧ t < 4) → 0 ≤ i → i < I 64 t.toNatClampNeg → Q (some (.int 1)) (z, N, q2 I 63 (t * 40 + i).toNatClampNeg (vp_nar .byte y.toInt8.toInt32), L, R)) : qWP (d + 4) 163 [.ref 2, .int t, .int i, .int y] (z, N, I, L, R) Q := by
  refine qWP_of m_X11_cell rfl rfl [(0, .ref 2), (1, .int t), (2, .int i), (3, .int y)] rfl ?_
  refine qJ_run (qWP_mono _) [] 400 ?_
  refine ⟨⟨Nat.le_refl _, Nat.le_refl _⟩, ?_⟩
  refine c_X10_has fun v1 hv1 => ?_
  refine ⟨fun (c1 : ¬ v1 = 0) => ?_, fun (c1 : v1 = 0) => ?_⟩
  · refine ⟨⟨Nat.le_refl _, Nat.le_refl _⟩, ?_⟩
    have hz1 := hz t (by clear h0 h1 h2 h3; grind) (by clear h0 h1 h2 h3; grind)
    refine c_X10_isMissing fun v2 hv2 => ?_
    refine ⟨fun (c2 : v2 = 0) => ?_, fun (c2 : ¬ v2 = 0) => ?_⟩
    · refine ⟨⟨Nat.le_refl _, Nat.le_refl _⟩, ?_⟩
      have hz1 := hz t (by clear h0 h1 h2 h3; grind) (by clear h0 h1 h2 h3; grind)
      refine c_X10_set (by clear h0 h1 h2 h3; grind) hz1 (fun e3 => ?_) (fun e3 e31 => ?_)
      · refine ⟨fun (c3 : 0 = 0) => ?_, fun (c3 : ¬ 0 = 0) => ?_⟩
        · change Q (some (.int (-12))) (z, N, I, L, R)
          exact h2 (by clear h0 h1 h2 h3; grind) (by clear h0 h1 h2 h3; grind) (by clear h0 h1 h2 h3; grind)
        · change Q (some (.int 1)) (z, N, I, L, R)
          exact absurd rfl c3
      · refine ⟨fun (c4 : 1 = 0) => ?_, fun (c4 : ¬ 1 = 0) => ?_⟩
        · change Q (some (.int (-12))) (z, N, q2 I 63 ((t * 40 + i).toNatClampNeg) (vp_nar .byte y.toInt8.toInt32), L, R)
          exact absurd c4 (by decide)
        · change Q (some (.int 1)) (z, N, q2 I 63 ((t * 40 + i).toNatClampNeg) (vp_nar .byte y.toInt8.toInt32), L, R)
          exact h3 (by clear h0 h1 h2 h3; grind) (by clear h0 h1 h2 h3; grind) (by clear h0 h1 h2 h3; grind)
    · change Q (some (.int (-11))) (z, N, I, L, R)
      exact h1 (by clear h0 h1 h2 h3; grind) (by clear h0 h1 h2 h3; grind)
  · change Q (some (.int (-2))) (z, N, I, L, R)
    exact h0 (by clear h0 h1 h2 h3; grind)
theorem c_X12_cell {d z : Nat} {N : Nat → Nat} {I : Nat → Nat → Int32} {L : Nat → Nat → Int64} {R : Nat → Nat → Option Nat} {Q : qP} {t : Int32} {i : Int32} {y : Int32} (hz : ∀ x : Int32, 0 ≤ x → x < 4 → -1 ≤ I 94 x.toNatClampNeg ∧ I 94 x.toNatClampNeg ≤ 40) (h0 : ¬ (0 ≤ t ∧ t < 4) → Q (some (.int (-2))) (z, N, I, L, R)) (h1 : (0 ≤ t ∧ t < 4) → I 94 t.toNatClampNeg < 0 → Q (some (.int (-11))) (z, N, I, L, R)) (h2 : (0 ≤ t ∧ t < 4) → 0 ≤ I 94 t.toNatClampNeg → ¬ (0 ≤ i ∧ i < I 94 t.toNatClampNeg) → Q (some (.int (-12))) (z, N, I, L, R)) (h3 : (0 ≤ t ∧ t < 4) → 0 ≤ i → i < I 94 t.toNatClampNeg → Q (some (.int 1)) (z, N, q2 I 95 (t * 40 + i).toNatClampNeg (y &&& 255), L, R)) : qWP (d + 2) 243 [.ref 65, .int t, .int i, .int y] (z, N, I, L, R) Q := by
  refine qWP_of m_X12_cell rfl rfl [(0, .ref 65), (1, .int t), (2, .int i), (3, .int y)] rfl ?_
  refine qJ_run (qWP_mono _) [] 400 ?_
  refine ⟨⟨Nat.le_refl _, Nat.le_refl _⟩, ?_⟩
  refine c_X12_isIn fun v1 hv1 => ?_
  refine ⟨fun (c1 : ¬ v1 = 0) => ?_, fun (c1 : v1 = 0) => ?_⟩
  · refine ⟨?_, ?_⟩
    · exact vb (x := t) (N := 4) 4 (by decide) (by clear h0 h1 h2 h3; grind) (by clear h0 h1 h2 h3; grind)
    refine ⟨fun (c2 : 0 ≤ (I 94 ((t).toNatClampNeg))) => ?_, fun (c2 : ¬ 0 ≤ (I 94 ((t).toNatClampNeg))) => ?_⟩
    · refine ⟨?_, ?_⟩
      · exact vb (x := t) (N := 4) 4 (by decide) (by clear h0 h1 h2 h3; grind) (by clear h0 h1 h2 h3; grind)
      refine ⟨⟨Nat.le_refl _, Nat.le_refl _⟩, ?_⟩
      refine c_X12_isIn fun v2 hv2 => ?_
      refine ⟨fun (c3 : ¬ v2 = 0) => ?_, fun (c3 : v2 = 0) => ?_⟩
      · refine ⟨?_, ?_⟩
        · have g := tr_ix (t := t) (i := i) (by clear h0 h1 h2 h3; grind) (by have := hz t (by clear h0 h1 h2 h3; grind) (by clear h0 h1 h2 h3; grind); clear h0 h1 h2 h3; grind)
          rw [← g.2.1] at g
          exact vb (N := 160) 160 (by decide) g.1.1 g.1.2
        change Q (some (.int 1)) (z, N, q2 I 95 (((40 * t) + i).toNatClampNeg) (y &&& 255), L, R)
        rw [(tr_ix (t := t) (i := i) (by clear h0 h1 h2 h3; grind) (by have := hz t (by clear h0 h1 h2 h3; grind) (by clear h0 h1 h2 h3; grind); clear h0 h1 h2 h3; grind)).2.1]
        exact h3 (by clear h0 h1 h2 h3; grind) (by clear h0 h1 h2 h3; grind) (by clear h0 h1 h2 h3; grind)
      · change Q (some (.int (-12))) (z, N, I, L, R)
        exact h2 (by clear h0 h1 h2 h3; grind) (by clear h0 h1 h2 h3; grind) (by clear h0 h1 h2 h3; grind)
    · change Q (some (.int (-11))) (z, N, I, L, R)
      exact h1 (by clear h0 h1 h2 h3; grind) (by clear h0 h1 h2 h3; grind)
  · change Q (some (.int (-2))) (z, N, I, L, R)
    exact h0 (by clear h0 h1 h2 h3; grind)
theorem op_tray {M : qM} (hI : qInv M) (t : Int32) (n : Int32) : qOp 162 242 [.int t, .int n] M := by
  obtain ⟨z, N, I, L, R⟩ := M
  obtain ⟨hst, hSt, hHa, hTo, hTp, hEd, hDa, hPe, hTr, hTx, hMk, hKA⟩ := hI
  dsimp only at hst hSt hHa hTo hTp hEd hDa hPe hTr hTx hMk hKA
  have hs : 0 ≤ I 3 2 ∧ I 3 2 ≤ 12 := ⟨hSt.2.1, hSt.2.2.1⟩
  have hn : 0 ≤ I 6 2 ∧ I 6 2 ≤ 6 := ⟨hHa.2.1, hHa.2.2.1⟩
  have hl : ∀ x : Int32, 0 ≤ x → x < I 3 2 → I 4 x.toNatClampNeg ≤ 4 ∧ I 5 x.toNatClampNeg ≤ 24 := fun x a b => ⟨(hSt.2.2.2 x a b).2.2.1, (hSt.2.2.2 x a b).2.2.2.2.2⟩
  have hs2 : 0 ≤ I 65 0 ∧ I 65 0 ≤ 12 := by rw [hSt.1]; exact hs
  have hl2 : ∀ x : Int32, 0 ≤ x → x < I 65 0 → I 66 x.toNatClampNeg ≤ 4 ∧ I 67 x.toNatClampNeg ≤ 24 := fun x a b => by
    rw [hSt.1] at b
    rw [(hSt.2.2.2 x a b).1, (hSt.2.2.2 x a b).2.2.2.1]
    exact hl x a b
  refine c_X11_tray hst (fun a0 => ?_) (fun a0 a1 => ?_) (fun a0 a1 => ?_)
  · refine ⟨_, rfl, ⟨rfl, rfl, hst⟩, ?_⟩
    refine c_X12_tray (fun b0 => ?_) (fun b0 b1 => ?_) (fun b0 b1 => ?_)
    · exact ⟨rfl, ⟨by first | rfl | (simp (decide := true) only [q2_ne, q2_r1, uI_at, uI_nj, qRow_ne, qRow_at]), rfl⟩, ⟨hst, (by first | exact hSt | (simp (decide := true) only [q2_ne, q2_r1, uI_at, uI_nj, qRow_ne, qRow_at]; exact hSt)), (by first | exact hHa | (simp (decide := true) only [q2_ne, q2_r1, uI_at, uI_nj, qRow_ne, qRow_at]; exact hHa)), (by first | exact hTo | (simp (decide := true) only [q2_ne, q2_r1, uI_at, uI_nj, qRow_ne, qRow_at]; exact hTo)), (by first | exact hTp | (simp (decide := true) only [q2_ne, q2_r1, uI_at, uI_nj, qRow_ne, qRow_at]; exact hTp)), (by first | exact hEd | (simp (decide := true) only [q2_ne, q2_r1, uI_at, uI_nj, qRow_ne, qRow_at]; exact hEd)), (by first | exact hDa | (simp (decide := true) only [q2_ne, q2_r1, uI_at, uI_nj, qRow_ne, qRow_at]; exact hDa)), (by first | exact hPe | (simp (decide := true) only [q2_ne, q2_r1, uI_at, uI_nj, qRow_ne, qRow_at]; exact hPe)), (by first | exact hTr | (simp (decide := true) only [q2_ne, q2_r1, uI_at, uI_nj, qRow_ne, qRow_at]; exact hTr)), (RTx_of hTx (by simp (decide := true) only [q2_ne, q2_r1, uI_at, uI_nj, qRow_ne, qRow_at]) (by simp (decide := true) only [q2_ne, q2_r1, uI_at, uI_nj, qRow_ne, qRow_at]) (by simp (decide := true) only [q2_ne, q2_r1, uI_at, uI_nj, qRow_ne, qRow_at]) (by simp (decide := true) only [q2_ne, q2_r1, uI_at, uI_nj, qRow_ne, qRow_at]) (by simp (decide := true) only [q2_ne, q2_r1, uI_at, uI_nj, qRow_ne, qRow_at]) (fun k hk => by (try dsimp only); repeat first | rfl | rw [q2_ne (by omega)] | rw [qRow_ne (by omega)]) (fun k hk => by (try dsimp only); repeat first | rfl | rw [q2_ne (by omega)] | rw [qRow_ne (by omega)])), (by first | exact hMk | (simp (decide := true) only [q2_ne, q2_r1, uI_at, uI_nj, qRow_ne, qRow_at]; exact hMk)), (by first | exact hKA | (simp (decide := true) only [q2_ne, q2_r1, uI_at, uI_nj, qRow_ne, qRow_at]; exact hKA))⟩⟩
    · exfalso; (try simp (decide := true) only [q2_ne, q2_r1, uI_at, uI_nj, qRow_ne, qRow_at] at *); (try simp only [place_eq hSt] at *); (try simp only [line_eq hSt] at *); (try rw [hSt.1] at *); (try rw [hHa.1] at *); clear hst hSt hHa hTo hTp hEd hDa hPe hTr hTx hMk hKA hl hl2; grind
    · exfalso; (try simp (decide := true) only [q2_ne, q2_r1, uI_at, uI_nj, qRow_ne, qRow_at] at *); (try simp only [place_eq hSt] at *); (try simp only [line_eq hSt] at *); (try rw [hSt.1] at *); (try rw [hHa.1] at *); clear hst hSt hHa hTo hTp hEd hDa hPe hTr hTx hMk hKA hl hl2; grind
  · refine ⟨_, rfl, ⟨rfl, rfl, hst⟩, ?_⟩
    refine c_X12_tray (fun b0 => ?_) (fun b0 b1 => ?_) (fun b0 b1 => ?_)
    · exfalso; (try simp (decide := true) only [q2_ne, q2_r1, uI_at, uI_nj, qRow_ne, qRow_at] at *); (try simp only [place_eq hSt] at *); (try simp only [line_eq hSt] at *); (try rw [hSt.1] at *); (try rw [hHa.1] at *); clear hst hSt hHa hTo hTp hEd hDa hPe hTr hTx hMk hKA hl hl2; grind
    · exact ⟨rfl, ⟨by first | rfl | (simp (decide := true) only [q2_ne, q2_r1, uI_at, uI_nj, qRow_ne, qRow_at]), rfl⟩, ⟨hst, (by first | exact hSt | (simp (decide := true) only [q2_ne, q2_r1, uI_at, uI_nj, qRow_ne, qRow_at]; exact hSt)), (by first | exact hHa | (simp (decide := true) only [q2_ne, q2_r1, uI_at, uI_nj, qRow_ne, qRow_at]; exact hHa)), (by first | exact hTo | (simp (decide := true) only [q2_ne, q2_r1, uI_at, uI_nj, qRow_ne, qRow_at]; exact hTo)), (by first | exact hTp | (simp (decide := true) only [q2_ne, q2_r1, uI_at, uI_nj, qRow_ne, qRow_at]; exact hTp)), (by first | exact hEd | (simp (decide := true) only [q2_ne, q2_r1, uI_at, uI_nj, qRow_ne, qRow_at]; exact hEd)), (by first | exact hDa | (simp (decide := true) only [q2_ne, q2_r1, uI_at, uI_nj, qRow_ne, qRow_at]; exact hDa)), (by first | exact hPe | (simp (decide := true) only [q2_ne, q2_r1, uI_at, uI_nj, qRow_ne, qRow_at]; exact hPe)), (by first | exact hTr | (simp (decide := true) only [q2_ne, q2_r1, uI_at, uI_nj, qRow_ne, qRow_at]; exact hTr)), (RTx_of hTx (by simp (decide := true) only [q2_ne, q2_r1, uI_at, uI_nj, qRow_ne, qRow_at]) (by simp (decide := true) only [q2_ne, q2_r1, uI_at, uI_nj, qRow_ne, qRow_at]) (by simp (decide := true) only [q2_ne, q2_r1, uI_at, uI_nj, qRow_ne, qRow_at]) (by simp (decide := true) only [q2_ne, q2_r1, uI_at, uI_nj, qRow_ne, qRow_at]) (by simp (decide := true) only [q2_ne, q2_r1, uI_at, uI_nj, qRow_ne, qRow_at]) (fun k hk => by (try dsimp only); repeat first | rfl | rw [q2_ne (by omega)] | rw [qRow_ne (by omega)]) (fun k hk => by (try dsimp only); repeat first | rfl | rw [q2_ne (by omega)] | rw [qRow_ne (by omega)])), (by first | exact hMk | (simp (decide := true) only [q2_ne, q2_r1, uI_at, uI_nj, qRow_ne, qRow_at]; exact hMk)), (by first | exact hKA | (simp (decide := true) only [q2_ne, q2_r1, uI_at, uI_nj, qRow_ne, qRow_at]; exact hKA))⟩⟩
    · exfalso; (try simp (decide := true) only [q2_ne, q2_r1, uI_at, uI_nj, qRow_ne, qRow_at] at *); (try simp only [place_eq hSt] at *); (try simp only [line_eq hSt] at *); (try rw [hSt.1] at *); (try rw [hHa.1] at *); clear hst hSt hHa hTo hTp hEd hDa hPe hTr hTx hMk hKA hl hl2; grind
  · refine ⟨_, rfl, ⟨by simp (decide := true) only [q2_ne, q2_r1, uI_at, uI_nj, qRow_ne, qRow_at], rfl, hst⟩, ?_⟩
    refine c_X12_tray (fun b0 => ?_) (fun b0 b1 => ?_) (fun b0 b1 => ?_)
    · exfalso; (try simp (decide := true) only [q2_ne, q2_r1, uI_at, uI_nj, qRow_ne, qRow_at] at *); (try simp only [place_eq hSt] at *); (try simp only [line_eq hSt] at *); (try rw [hSt.1] at *); (try rw [hHa.1] at *); clear hst hSt hHa hTo hTp hEd hDa hPe hTr hTx hMk hKA hl hl2; grind
    · exfalso; (try simp (decide := true) only [q2_ne, q2_r1, uI_at, uI_nj, qRow_ne, qRow_at] at *); (try simp only [place_eq hSt] at *); (try simp only [line_eq hSt] at *); (try rw [hSt.1] at *); (try rw [hHa.1] at *); clear hst hSt hHa hTo hTp hEd hDa hPe hTr hTx hMk hKA hl hl2; grind
    · exact ⟨rfl, ⟨by first | rfl | (simp (decide := true) only [q2_ne, q2_r1, uI_at, uI_nj, qRow_ne, qRow_at]), rfl⟩, ⟨hst, (by first | exact hSt | (simp (decide := true) only [q2_ne, q2_r1, uI_at, uI_nj, qRow_ne, qRow_at]; exact hSt)), (by first | exact hHa | (simp (decide := true) only [q2_ne, q2_r1, uI_at, uI_nj, qRow_ne, qRow_at]; exact hHa)), (by first | exact hTo | (simp (decide := true) only [q2_ne, q2_r1, uI_at, uI_nj, qRow_ne, qRow_at]; exact hTo)), (by first | exact hTp | (simp (decide := true) only [q2_ne, q2_r1, uI_at, uI_nj, qRow_ne, qRow_at]; exact hTp)), (by first | exact hEd | (simp (decide := true) only [q2_ne, q2_r1, uI_at, uI_nj, qRow_ne, qRow_at]; exact hEd)), (by first | exact hDa | (simp (decide := true) only [q2_ne, q2_r1, uI_at, uI_nj, qRow_ne, qRow_at]; exact hDa)), (by first | exact hPe | (simp (decide := true) only [q2_ne, q2_r1, uI_at, uI_nj, qRow_ne, qRow_at]; exact hPe)), (by simp (decide := true) only [q2_ne, q2_r1, uI_at, uI_nj, qRow_ne, qRow_at]; exact RTr_put hTr (by clear hst hSt hHa hTo hTp hEd hDa hPe hTr hTx hMk hKA hl hl2 b0 b1; grind) (by clear hst hSt hHa hTo hTp hEd hDa hPe hTr hTx hMk hKA hl hl2 b0 b1; grind)), (RTx_of hTx (by simp (decide := true) only [q2_ne, q2_r1, uI_at, uI_nj, qRow_ne, qRow_at]) (by simp (decide := true) only [q2_ne, q2_r1, uI_at, uI_nj, qRow_ne, qRow_at]) (by simp (decide := true) only [q2_ne, q2_r1, uI_at, uI_nj, qRow_ne, qRow_at]) (by simp (decide := true) only [q2_ne, q2_r1, uI_at, uI_nj, qRow_ne, qRow_at]) (by simp (decide := true) only [q2_ne, q2_r1, uI_at, uI_nj, qRow_ne, qRow_at]) (fun k hk => by (try dsimp only); repeat first | rfl | rw [q2_ne (by omega)] | rw [qRow_ne (by omega)]) (fun k hk => by (try dsimp only); repeat first | rfl | rw [q2_ne (by omega)] | rw [qRow_ne (by omega)])), (by first | exact hMk | (simp (decide := true) only [q2_ne, q2_r1, uI_at, uI_nj, qRow_ne, qRow_at]; exact hMk)), (by first | exact hKA | (simp (decide := true) only [q2_ne, q2_r1, uI_at, uI_nj, qRow_ne, qRow_at]; exact hKA))⟩⟩

theorem op_cell {M : qM} (hI : qInv M) (t : Int32) (i : Int32) (y : Int32) : qOp 163 243 [.int t, .int i, .int y] M := by
  obtain ⟨z, N, I, L, R⟩ := M
  obtain ⟨hst, hSt, hHa, hTo, hTp, hEd, hDa, hPe, hTr, hTx, hMk, hKA⟩ := hI
  dsimp only at hst hSt hHa hTo hTp hEd hDa hPe hTr hTx hMk hKA
  have hs : 0 ≤ I 3 2 ∧ I 3 2 ≤ 12 := ⟨hSt.2.1, hSt.2.2.1⟩
  have hn : 0 ≤ I 6 2 ∧ I 6 2 ≤ 6 := ⟨hHa.2.1, hHa.2.2.1⟩
  have hl : ∀ x : Int32, 0 ≤ x → x < I 3 2 → I 4 x.toNatClampNeg ≤ 4 ∧ I 5 x.toNatClampNeg ≤ 24 := fun x a b => ⟨(hSt.2.2.2 x a b).2.2.1, (hSt.2.2.2 x a b).2.2.2.2.2⟩
  have hs2 : 0 ≤ I 65 0 ∧ I 65 0 ≤ 12 := by rw [hSt.1]; exact hs
  have hl2 : ∀ x : Int32, 0 ≤ x → x < I 65 0 → I 66 x.toNatClampNeg ≤ 4 ∧ I 67 x.toNatClampNeg ≤ 24 := fun x a b => by
    rw [hSt.1] at b
    rw [(hSt.2.2.2 x a b).1, (hSt.2.2.2 x a b).2.2.2.1]
    exact hl x a b
  have hz : ∀ x : Int32, 0 ≤ x → x < 4 → -1 ≤ I 64 x.toNatClampNeg ∧ I 64 x.toNatClampNeg ≤ 40 := fun x a b => (hTr.1 x a b).2
  have hzz : ∀ x : Int32, 0 ≤ x → x < 4 → I 94 x.toNatClampNeg = I 64 x.toNatClampNeg := fun x a b => (hTr.1 x a b).1
  have hz2 : ∀ x : Int32, 0 ≤ x → x < 4 → -1 ≤ I 94 x.toNatClampNeg ∧ I 94 x.toNatClampNeg ≤ 40 := fun x a b => by rw [(hTr.1 x a b).1]; exact hz x a b
  refine c_X11_cell hz (fun a0 => ?_) (fun a0 a1 => ?_) (fun a0 a1 a2 => ?_) (fun a0 a1 a2 => ?_)
  · refine ⟨_, rfl, ⟨rfl, rfl, hst⟩, ?_⟩
    refine c_X12_cell (by first | exact hz2 | (simp (decide := true) only [q2_ne, q2_r1, uI_at, uI_nj, qRow_ne, qRow_at]; exact hz2)) (fun b0 => ?_) (fun b0 b1 => ?_) (fun b0 b1 b2 => ?_) (fun b0 b1 b2 => ?_)
    · exact ⟨rfl, ⟨by first | rfl | (simp (decide := true) only [q2_ne, q2_r1, uI_at, uI_nj, qRow_ne, qRow_at]), rfl⟩, ⟨hst, (by first | exact hSt | (simp (decide := true) only [q2_ne, q2_r1, uI_at, uI_nj, qRow_ne, qRow_at]; exact hSt)), (by first | exact hHa | (simp (decide := true) only [q2_ne, q2_r1, uI_at, uI_nj, qRow_ne, qRow_at]; exact hHa)), (by first | exact hTo | (simp (decide := true) only [q2_ne, q2_r1, uI_at, uI_nj, qRow_ne, qRow_at]; exact hTo)), (by first | exact hTp | (simp (decide := true) only [q2_ne, q2_r1, uI_at, uI_nj, qRow_ne, qRow_at]; exact hTp)), (by first | exact hEd | (simp (decide := true) only [q2_ne, q2_r1, uI_at, uI_nj, qRow_ne, qRow_at]; exact hEd)), (by first | exact hDa | (simp (decide := true) only [q2_ne, q2_r1, uI_at, uI_nj, qRow_ne, qRow_at]; exact hDa)), (by first | exact hPe | (simp (decide := true) only [q2_ne, q2_r1, uI_at, uI_nj, qRow_ne, qRow_at]; exact hPe)), (by first | exact hTr | (simp (decide := true) only [q2_ne, q2_r1, uI_at, uI_nj, qRow_ne, qRow_at]; exact hTr)), (RTx_of hTx (by simp (decide := true) only [q2_ne, q2_r1, uI_at, uI_nj, qRow_ne, qRow_at]) (by simp (decide := true) only [q2_ne, q2_r1, uI_at, uI_nj, qRow_ne, qRow_at]) (by simp (decide := true) only [q2_ne, q2_r1, uI_at, uI_nj, qRow_ne, qRow_at]) (by simp (decide := true) only [q2_ne, q2_r1, uI_at, uI_nj, qRow_ne, qRow_at]) (by simp (decide := true) only [q2_ne, q2_r1, uI_at, uI_nj, qRow_ne, qRow_at]) (fun k hk => by (try dsimp only); repeat first | rfl | rw [q2_ne (by omega)] | rw [qRow_ne (by omega)]) (fun k hk => by (try dsimp only); repeat first | rfl | rw [q2_ne (by omega)] | rw [qRow_ne (by omega)])), (by first | exact hMk | (simp (decide := true) only [q2_ne, q2_r1, uI_at, uI_nj, qRow_ne, qRow_at]; exact hMk)), (by first | exact hKA | (simp (decide := true) only [q2_ne, q2_r1, uI_at, uI_nj, qRow_ne, qRow_at]; exact hKA))⟩⟩
    · exfalso; (try simp (decide := true) only [q2_ne, q2_r1, uI_at, uI_nj, qRow_ne, qRow_at] at *); (try simp only [place_eq hSt] at *); (try simp only [line_eq hSt] at *); (try rw [hSt.1] at *); (try rw [hHa.1] at *); clear hst hSt hHa hTo hTp hEd hDa hPe hTr hTx hMk hKA hl hl2; grind
    · exfalso; (try simp (decide := true) only [q2_ne, q2_r1, uI_at, uI_nj, qRow_ne, qRow_at] at *); (try simp only [place_eq hSt] at *); (try simp only [line_eq hSt] at *); (try rw [hSt.1] at *); (try rw [hHa.1] at *); clear hst hSt hHa hTo hTp hEd hDa hPe hTr hTx hMk hKA hl hl2; grind
    · exfalso; (try simp (decide := true) only [q2_ne, q2_r1, uI_at, uI_nj, qRow_ne, qRow_at] at *); (try simp only [place_eq hSt] at *); (try simp only [line_eq hSt] at *); (try rw [hSt.1] at *); (try rw [hHa.1] at *); clear hst hSt hHa hTo hTp hEd hDa hPe hTr hTx hMk hKA hl hl2; grind
  · have hzt := hzz t a0.1 a0.2
    refine ⟨_, rfl, ⟨rfl, rfl, hst⟩, ?_⟩
    refine c_X12_cell (by first | exact hz2 | (simp (decide := true) only [q2_ne, q2_r1, uI_at, uI_nj, qRow_ne, qRow_at]; exact hz2)) (fun b0 => ?_) (fun b0 b1 => ?_) (fun b0 b1 b2 => ?_) (fun b0 b1 b2 => ?_)
    · exfalso; (try simp (decide := true) only [q2_ne, q2_r1, uI_at, uI_nj, qRow_ne, qRow_at] at *); (try simp only [place_eq hSt] at *); (try simp only [line_eq hSt] at *); (try rw [hSt.1] at *); (try rw [hHa.1] at *); clear hst hSt hHa hTo hTp hEd hDa hPe hTr hTx hMk hKA hl hl2; grind
    · exact ⟨rfl, ⟨by first | rfl | (simp (decide := true) only [q2_ne, q2_r1, uI_at, uI_nj, qRow_ne, qRow_at]), rfl⟩, ⟨hst, (by first | exact hSt | (simp (decide := true) only [q2_ne, q2_r1, uI_at, uI_nj, qRow_ne, qRow_at]; exact hSt)), (by first | exact hHa | (simp (decide := true) only [q2_ne, q2_r1, uI_at, uI_nj, qRow_ne, qRow_at]; exact hHa)), (by first | exact hTo | (simp (decide := true) only [q2_ne, q2_r1, uI_at, uI_nj, qRow_ne, qRow_at]; exact hTo)), (by first | exact hTp | (simp (decide := true) only [q2_ne, q2_r1, uI_at, uI_nj, qRow_ne, qRow_at]; exact hTp)), (by first | exact hEd | (simp (decide := true) only [q2_ne, q2_r1, uI_at, uI_nj, qRow_ne, qRow_at]; exact hEd)), (by first | exact hDa | (simp (decide := true) only [q2_ne, q2_r1, uI_at, uI_nj, qRow_ne, qRow_at]; exact hDa)), (by first | exact hPe | (simp (decide := true) only [q2_ne, q2_r1, uI_at, uI_nj, qRow_ne, qRow_at]; exact hPe)), (by first | exact hTr | (simp (decide := true) only [q2_ne, q2_r1, uI_at, uI_nj, qRow_ne, qRow_at]; exact hTr)), (RTx_of hTx (by simp (decide := true) only [q2_ne, q2_r1, uI_at, uI_nj, qRow_ne, qRow_at]) (by simp (decide := true) only [q2_ne, q2_r1, uI_at, uI_nj, qRow_ne, qRow_at]) (by simp (decide := true) only [q2_ne, q2_r1, uI_at, uI_nj, qRow_ne, qRow_at]) (by simp (decide := true) only [q2_ne, q2_r1, uI_at, uI_nj, qRow_ne, qRow_at]) (by simp (decide := true) only [q2_ne, q2_r1, uI_at, uI_nj, qRow_ne, qRow_at]) (fun k hk => by (try dsimp only); repeat first | rfl | rw [q2_ne (by omega)] | rw [qRow_ne (by omega)]) (fun k hk => by (try dsimp only); repeat first | rfl | rw [q2_ne (by omega)] | rw [qRow_ne (by omega)])), (by first | exact hMk | (simp (decide := true) only [q2_ne, q2_r1, uI_at, uI_nj, qRow_ne, qRow_at]; exact hMk)), (by first | exact hKA | (simp (decide := true) only [q2_ne, q2_r1, uI_at, uI_nj, qRow_ne, qRow_at]; exact hKA))⟩⟩
    · exfalso; (try simp (decide := true) only [q2_ne, q2_r1, uI_at, uI_nj, qRow_ne, qRow_at] at *); (try simp only [place_eq hSt] at *); (try simp only [line_eq hSt] at *); (try rw [hSt.1] at *); (try rw [hHa.1] at *); clear hst hSt hHa hTo hTp hEd hDa hPe hTr hTx hMk hKA hl hl2; grind
    · exfalso; (try simp (decide := true) only [q2_ne, q2_r1, uI_at, uI_nj, qRow_ne, qRow_at] at *); (try simp only [place_eq hSt] at *); (try simp only [line_eq hSt] at *); (try rw [hSt.1] at *); (try rw [hHa.1] at *); clear hst hSt hHa hTo hTp hEd hDa hPe hTr hTx hMk hKA hl hl2; grind
  · have hzt := hzz t a0.1 a0.2
    refine ⟨_, rfl, ⟨rfl, rfl, hst⟩, ?_⟩
    refine c_X12_cell (by first | exact hz2 | (simp (decide := true) only [q2_ne, q2_r1, uI_at, uI_nj, qRow_ne, qRow_at]; exact hz2)) (fun b0 => ?_) (fun b0 b1 => ?_) (fun b0 b1 b2 => ?_) (fun b0 b1 b2 => ?_)
    · exfalso; (try simp (decide := true) only [q2_ne, q2_r1, uI_at, uI_nj, qRow_ne, qRow_at] at *); (try simp only [place_eq hSt] at *); (try simp only [line_eq hSt] at *); (try rw [hSt.1] at *); (try rw [hHa.1] at *); clear hst hSt hHa hTo hTp hEd hDa hPe hTr hTx hMk hKA hl hl2; grind
    · exfalso; (try simp (decide := true) only [q2_ne, q2_r1, uI_at, uI_nj, qRow_ne, qRow_at] at *); (try simp only [place_eq hSt] at *); (try simp only [line_eq hSt] at *); (try rw [hSt.1] at *); (try rw [hHa.1] at *); clear hst hSt hHa hTo hTp hEd hDa hPe hTr hTx hMk hKA hl hl2; grind
    · exact ⟨rfl, ⟨by first | rfl | (simp (decide := true) only [q2_ne, q2_r1, uI_at, uI_nj, qRow_ne, qRow_at]), rfl⟩, ⟨hst, (by first | exact hSt | (simp (decide := true) only [q2_ne, q2_r1, uI_at, uI_nj, qRow_ne, qRow_at]; exact hSt)), (by first | exact hHa | (simp (decide := true) only [q2_ne, q2_r1, uI_at, uI_nj, qRow_ne, qRow_at]; exact hHa)), (by first | exact hTo | (simp (decide := true) only [q2_ne, q2_r1, uI_at, uI_nj, qRow_ne, qRow_at]; exact hTo)), (by first | exact hTp | (simp (decide := true) only [q2_ne, q2_r1, uI_at, uI_nj, qRow_ne, qRow_at]; exact hTp)), (by first | exact hEd | (simp (decide := true) only [q2_ne, q2_r1, uI_at, uI_nj, qRow_ne, qRow_at]; exact hEd)), (by first | exact hDa | (simp (decide := true) only [q2_ne, q2_r1, uI_at, uI_nj, qRow_ne, qRow_at]; exact hDa)), (by first | exact hPe | (simp (decide := true) only [q2_ne, q2_r1, uI_at, uI_nj, qRow_ne, qRow_at]; exact hPe)), (by first | exact hTr | (simp (decide := true) only [q2_ne, q2_r1, uI_at, uI_nj, qRow_ne, qRow_at]; exact hTr)), (RTx_of hTx (by simp (decide := true) only [q2_ne, q2_r1, uI_at, uI_nj, qRow_ne, qRow_at]) (by simp (decide := true) only [q2_ne, q2_r1, uI_at, uI_nj, qRow_ne, qRow_at]) (by simp (decide := true) only [q2_ne, q2_r1, uI_at, uI_nj, qRow_ne, qRow_at]) (by simp (decide := true) only [q2_ne, q2_r1, uI_at, uI_nj, qRow_ne, qRow_at]) (by simp (decide := true) only [q2_ne, q2_r1, uI_at, uI_nj, qRow_ne, qRow_at]) (fun k hk => by (try dsimp only); repeat first | rfl | rw [q2_ne (by omega)] | rw [qRow_ne (by omega)]) (fun k hk => by (try dsimp only); repeat first | rfl | rw [q2_ne (by omega)] | rw [qRow_ne (by omega)])), (by first | exact hMk | (simp (decide := true) only [q2_ne, q2_r1, uI_at, uI_nj, qRow_ne, qRow_at]; exact hMk)), (by first | exact hKA | (simp (decide := true) only [q2_ne, q2_r1, uI_at, uI_nj, qRow_ne, qRow_at]; exact hKA))⟩⟩
    · exfalso; (try simp (decide := true) only [q2_ne, q2_r1, uI_at, uI_nj, qRow_ne, qRow_at] at *); (try simp only [place_eq hSt] at *); (try simp only [line_eq hSt] at *); (try rw [hSt.1] at *); (try rw [hHa.1] at *); clear hst hSt hHa hTo hTp hEd hDa hPe hTr hTx hMk hKA hl hl2; grind
  · have hzt := hzz t a0.1 a0.2
    refine ⟨_, rfl, ⟨by simp (decide := true) only [q2_ne, q2_r1, uI_at, uI_nj, qRow_ne, qRow_at], rfl, hst⟩, ?_⟩
    refine c_X12_cell (by first | exact hz2 | (simp (decide := true) only [q2_ne, q2_r1, uI_at, uI_nj, qRow_ne, qRow_at]; exact hz2)) (fun b0 => ?_) (fun b0 b1 => ?_) (fun b0 b1 b2 => ?_) (fun b0 b1 b2 => ?_)
    · exfalso; (try simp (decide := true) only [q2_ne, q2_r1, uI_at, uI_nj, qRow_ne, qRow_at] at *); (try simp only [place_eq hSt] at *); (try simp only [line_eq hSt] at *); (try rw [hSt.1] at *); (try rw [hHa.1] at *); clear hst hSt hHa hTo hTp hEd hDa hPe hTr hTx hMk hKA hl hl2; grind
    · exfalso; (try simp (decide := true) only [q2_ne, q2_r1, uI_at, uI_nj, qRow_ne, qRow_at] at *); (try simp only [place_eq hSt] at *); (try simp only [line_eq hSt] at *); (try rw [hSt.1] at *); (try rw [hHa.1] at *); clear hst hSt hHa hTo hTp hEd hDa hPe hTr hTx hMk hKA hl hl2; grind
    · exfalso; (try simp (decide := true) only [q2_ne, q2_r1, uI_at, uI_nj, qRow_ne, qRow_at] at *); (try simp only [place_eq hSt] at *); (try simp only [line_eq hSt] at *); (try rw [hSt.1] at *); (try rw [hHa.1] at *); clear hst hSt hHa hTo hTp hEd hDa hPe hTr hTx hMk hKA hl hl2; grind
    · exact ⟨rfl, ⟨by first | rfl | (simp (decide := true) only [q2_ne, q2_r1, uI_at, uI_nj, qRow_ne, qRow_at]), rfl⟩, ⟨hst, (by first | exact hSt | (simp (decide := true) only [q2_ne, q2_r1, uI_at, uI_nj, qRow_ne, qRow_at]; exact hSt)), (by first | exact hHa | (simp (decide := true) only [q2_ne, q2_r1, uI_at, uI_nj, qRow_ne, qRow_at]; exact hHa)), (by first | exact hTo | (simp (decide := true) only [q2_ne, q2_r1, uI_at, uI_nj, qRow_ne, qRow_at]; exact hTo)), (by first | exact hTp | (simp (decide := true) only [q2_ne, q2_r1, uI_at, uI_nj, qRow_ne, qRow_at]; exact hTp)), (by first | exact hEd | (simp (decide := true) only [q2_ne, q2_r1, uI_at, uI_nj, qRow_ne, qRow_at]; exact hEd)), (by first | exact hDa | (simp (decide := true) only [q2_ne, q2_r1, uI_at, uI_nj, qRow_ne, qRow_at]; exact hDa)), (by first | exact hPe | (simp (decide := true) only [q2_ne, q2_r1, uI_at, uI_nj, qRow_ne, qRow_at]; exact hPe)), (by simp (decide := true) only [q2_ne, q2_r1, uI_at, uI_nj, qRow_ne, qRow_at]; exact RTr_cell hTr), (RTx_of hTx (by simp (decide := true) only [q2_ne, q2_r1, uI_at, uI_nj, qRow_ne, qRow_at]) (by simp (decide := true) only [q2_ne, q2_r1, uI_at, uI_nj, qRow_ne, qRow_at]) (by simp (decide := true) only [q2_ne, q2_r1, uI_at, uI_nj, qRow_ne, qRow_at]) (by simp (decide := true) only [q2_ne, q2_r1, uI_at, uI_nj, qRow_ne, qRow_at]) (by simp (decide := true) only [q2_ne, q2_r1, uI_at, uI_nj, qRow_ne, qRow_at]) (fun k hk => by (try dsimp only); repeat first | rfl | rw [q2_ne (by omega)] | rw [qRow_ne (by omega)]) (fun k hk => by (try dsimp only); repeat first | rfl | rw [q2_ne (by omega)] | rw [qRow_ne (by omega)])), (by first | exact hMk | (simp (decide := true) only [q2_ne, q2_r1, uI_at, uI_nj, qRow_ne, qRow_at]; exact hMk)), (by first | exact hKA | (simp (decide := true) only [q2_ne, q2_r1, uI_at, uI_nj, qRow_ne, qRow_at]; exact hKA))⟩⟩

