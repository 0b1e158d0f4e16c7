/-! lay -/
def fLy (b : Int32) : Int32 := if b = 32 then fTd 0 26 else if 97 ≤ b ∧ b ≤ 122 then fTd 0 (b - 97) else fTd 3 0
def fLk (b : Int32) : Int32 := if b = 32 ∨ (97 ≤ b ∧ b ≤ 122) then 0 else 3
def fLm (b : Int32) : Int32 := if b = 32 then 1 <<< ((26 : Int32) &&& 31) else if 97 ≤ b ∧ b ≤ 122 then 1 <<< ((b - 97) &&& 31) else 134217727
theorem ly_rd (b : Int32) : rd1 (fLy b) (fLk b + 1) (fLm b) ∧ ¬ fLy b = 0 := by
  unfold fLy fLk fLm
  by_cases h : b = 32
  · rw [if_pos h, if_pos (Or.inl h), if_pos h]
    exact td_ok (k := 0) (v := 26) ⟨by decide, fun h => absurd h (by decide), fun _ => by decide⟩
  · rw [if_neg h, if_neg h]
    by_cases h2 : 97 ≤ b ∧ b ≤ 122
    · rw [if_pos h2, if_pos (Or.inr h2), if_pos h2]
      exact td_ok (k := 0) (v := b - 97) ⟨by decide, fun h => absurd h (by decide), fun _ => by grind⟩
    · rw [if_neg h2, if_neg (by grind), if_neg h2]
      exact td_ok (k := 3) (v := 0) ⟨by decide, fun h => absurd h (by decide), fun h => absurd h (by decide)⟩
def gLy (by_ : Nat → Int32) (sz t f a s l p : Int32) (tr : Nat → Int32) : Sum (Nat → Int32) (Int32 × (Nat → Int32)) :=
  if f < 0 ∨ sz - p ≤ f then .inr (-12, tr) else .inl (uI tr (tIx a s l p).toNatClampNeg (fLy (by_ (t * 40 + f + p).toNatClampNeg &&& 255)))
def gLr (by_ : Nat → Int32) (sz t f a s l p : Int32) (ky : (Nat → Int32) × (Nat → Int32)) : Sum ((Nat → Int32) × (Nat → Int32)) (Int32 × (Nat → Int32) × (Nat → Int32)) :=
  if f < 0 ∨ sz - p ≤ f then .inr (-12, ky) else .inl (uI ky.1 (tIx a s l p).toNatClampNeg (fLk (by_ (t * 40 + f + p).toNatClampNeg) + 1), uI ky.2 (tIx a s l p).toNatClampNeg (fLm (by_ (t * 40 + f + p).toNatClampNeg)))
def fLay (by_ : Nat → Int32) (sz t f a s l n : Int32) (tr : Nat → Int32) : Int32 × (Nat → Int32) := upS n (gLy by_ sz t f a s l) (fun tr => (n, tr)) 0 tr
def fLar (by_ : Nat → Int32) (sz t f a s l n : Int32) (ky : (Nat → Int32) × (Nat → Int32)) : Int32 × (Nat → Int32) × (Nat → Int32) := upS n (gLr by_ sz t f a s l) (fun ky => (n, ky)) 0 ky
theorem lay_rel {by_ by' : Nat → Int32} {sz t f a s l n : Int32} {tr k y : Nat → Int32} (ht : 0 ≤ t ∧ t < 4) (hz : -1 ≤ sz ∧ sz ≤ 40) (hn : 0 ≤ n ∧ n ≤ 24) (hb : ∀ j : Nat, j < 160 → by' j = by_ j &&& 255) (h : RTo tr k y) : (fLay by_ sz t f a s l n tr).1 = (fLar by' sz t f a s l n (k, y)).1 ∧ RTo (fLay by_ sz t f a s l n tr).2 (fLar by' sz t f a s l n (k, y)).2.1 (fLar by' sz t f a s l n (k, y)).2.2 := by
  refine upS_rel2 (fun _ (tr : Nat → Int32) (ky : (Nat → Int32) × (Nat → Int32)) => RTo tr ky.1 ky.2) (fun (r : Int32 × (Nat → Int32)) (q : Int32 × (Nat → Int32) × (Nat → Int32)) => r.1 = q.1 ∧ RTo r.2 q.2.1 q.2.2) (fun x y h => ⟨rfl, h⟩) (fun p x y h0 h1 h => ?_) 0 tr (k, y) (by decide) hn.1 h
  unfold gLy gLr
  by_cases hc : f < 0 ∨ sz - p ≤ f
  · rw [if_pos hc, if_pos hc]
    exact Or.inr ⟨_, _, rfl, rfl, rfl, h⟩
  · rw [if_neg hc, if_neg hc]
    have hr := fp_rng (f := f) (p := p) (z := sz) (fun h => hc (Or.inl h)) ⟨h0, by grind⟩ hz (fun h => hc (Or.inr h))
    have g := tr_ix (i := f + p) ht hr.1
    have e9 : t * 40 + (f + p) = t * 40 + f + p := by clear h hr g; grind
    rw [e9] at g
    have hj : (t * 40 + f + p).toNatClampNeg < 160 := by
      rw [tcn]
      have := Int32.lt_iff_toInt_lt.mp g.1.2
      rw [show (160 : Int32).toInt = 160 from rfl] at this
      omega
    refine Or.inl ⟨_, _, rfl, rfl, ?_⟩
    rw [hb _ hj]
    exact RTo_put h (ly_rd _).1
theorem lg_lt {a b : Int64} : lg_cmp a b < 0 ↔ a < b := by
  unfold lg_cmp
  split
  · rename_i h; simp [h]
  · split
    · rename_i h1 h2; subst h2; simp [Int64.lt_irrefl]
    · rename_i h1 h2; simp [h1]
theorem i64_add {f p : Int32} : (f.toInt64 + p.toInt64).toInt = f.toInt + p.toInt := by
  have h1 := Int32.toInt_lt f
  have h2 := Int32.le_toInt f
  have h3 := Int32.toInt_lt p
  have h4 := Int32.le_toInt p
  rw [Int64.toInt_add, Int32.toInt_toInt64, Int32.toInt_toInt64]
  exact Int.bmod_eq_of_le (by omega) (by omega)
theorem lay_c {f p sz : Int32} (hp : 0 ≤ p ∧ p < 24) (hz : -1 ≤ sz ∧ sz ≤ 40) (h : p = 0 ∨ ¬ f < 0) : (f.toInt64 + p.toInt64 < 0 ∨ ¬ f.toInt64 + p.toInt64 < sz.toInt64) ↔ (f < 0 ∨ sz - p ≤ f) := by
  rw [Int64.lt_iff_toInt_lt, Int64.lt_iff_toInt_lt, i64_add, Int32.toInt_toInt64, show (0 : Int64).toInt = 0 from rfl]
  have e1 : (sz - p).toInt = sz.toInt - p.toInt := by
    simp only [fa_lt, fa_le] at hp hz
    rw [show (0 : Int32).toInt = 0 from rfl, show (24 : Int32).toInt = 24 from rfl] at hp
    rw [show (-1 : Int32).toInt = -1 from rfl, show (40 : Int32).toInt = 40 from rfl] at hz
    exact ti_sub (by omega)
  have hp0 : p = 0 → p.toInt = 0 := fun e => by rw [e]; rfl
  simp only [fa_lt, fa_le, e1] at *
  rw [show (0 : Int32).toInt = 0 from rfl] at *
  rcases h with h | h
  · have := hp0 h; omega
  · omega
theorem l_X11_lay {d z : Nat} {N : Nat → Nat} {I : Nat → Nat → Int32} {L : Nat → Nat → Int64} {R : Nat → Nat → Option Nat} {Q : qP} {a s l t f n : Int32} (hst : qStat (z, N, I, L, R)) (ha : 0 ≤ a ∧ a < 6) (hs : 0 ≤ s ∧ s < 12) (hl : 0 ≤ l ∧ l < 4) (ht : 0 ≤ t ∧ t < 4) (hn : 0 ≤ n ∧ n ≤ 24) (hz : -1 ≤ I 64 t.toNatClampNeg ∧ I 64 t.toNatClampNeg ≤ 40) : ∀ (p : Int32), ∀ tr : Nat → Int32, 0 ≤ p → p ≤ n → Q (some (.int (upS n (gLy (I 63) (I 64 t.toNatClampNeg) t f a s l) (fun tr => (n, tr)) p tr).1)) (z, N, qRow I 8 (upS n (gLy (I 63) (I 64 t.toNatClampNeg) t f a s l) (fun tr => (n, tr)) p tr).2, L, R) → qJ m_X11_lay (qWP (d + 4)) Q 62 [(7, .int p), (6, .int n), (5, .int f), (4, .int t), (3, .int l), (2, .int s), (1, .int a), (0, .ref 2)] [] 0 0 (z, N, qRow I 8 tr, L, R) := by
  refine up_ind (n) fun p ih => ?_
  intro tr h0 h1 hq
  refine qJ_run (qWP_mono _) [62] 400 ?_
  refine ⟨fun (c1 : n ≤ p) => ?_, fun (c1 : ¬ n ≤ p) => ?_⟩
  · change Q (some (.int n)) (z, N, qRow I 8 tr, L, R)
    rw [upS_ge (by assumption)] at hq
    exact hq
  · refine ⟨⟨Nat.le_refl _, Nat.le_refl _⟩, ?_⟩
    refine c_X10_byteAt (by exact ht) (by simp (decide := true) only [qRow_ne]; exact hz) ⟨h0, by clear ih hq; grind⟩ fun v1 hv1 => ?_
    simp (decide := true) only [qRow_ne] at hv1
    refine ⟨fun (c2 : ¬ v1 = (-1)) => ?_, fun (c2 : v1 = (-1)) => ?_⟩
    · refine ⟨fun (c3 : ¬ v1 = 32) => ?_, fun (c3 : v1 = 32) => ?_⟩
      · refine ⟨⟨Nat.le_refl _, Nat.le_refl _⟩, ?_⟩
        refine c_X8_letterOf fun v2 hv2 => ?_
        refine ⟨fun (c4 : ¬ v2 = (-1)) => ?_, fun (c4 : v2 = (-1)) => ?_⟩
        · refine ⟨⟨Nat.le_refl _, Nat.le_refl _⟩, ?_⟩
          refine c_X5_told hst fun v3 hv3 => ?_
          refine ⟨⟨Nat.le_refl _, Nat.le_refl _⟩, ?_⟩
          refine c_X5_put (fun _ _ => ?_) (fun e => absurd (ix_rng ha ⟨hs, hl, h0, by clear ih hq; grind⟩) e)
          rw [q2_qRow]
          refine qJ_nm (qWP_mono _) [(10, _), (9, _), (8, _)] [(7, .int (p + 1)), (6, .int n), (5, .int f), (4, .int t), (3, .int l), (2, .int s), (1, .int a), (0, .ref 2)] rfl rfl rfl ?_
          have hk : p < n := by clear ih hq; grind
          have e : gLy (I 63) (I 64 t.toNatClampNeg) t f a s l p tr = .inl (uI tr (tIx a s l p).toNatClampNeg v3) := by
            unfold gLy
            have hc : ¬ (f < 0 ∨ I 64 t.toNatClampNeg - p ≤ f) := fun hc => by rw [if_pos hc] at hv1; exact absurd hv1 (by assumption)
            rw [if_neg hc] at hv1 ⊢
            rw [← hv1]
            congr 2
            unfold fLy
            first
  | (rw [if_pos (by assumption)]; assumption)
  | (rw [if_neg (by assumption), if_neg (by clear ih hq; grind)]; assumption)
  | (have h97 : 97 ≤ v1 ∧ v1 ≤ 122 := by clear ih hq; grind
     rw [if_neg (by assumption), if_pos h97]
     rw [if_pos h97] at hv2
     rw [← hv2]
     assumption)
  | (exfalso; clear ih hq; grind)
          rw [upS_on hk e] at hq
          exact ih hk _ (by clear ih hq; grind) (by clear ih hq; grind) hq
        · refine ⟨⟨Nat.le_refl _, Nat.le_refl _⟩, ?_⟩
          refine c_X5_told hst fun v5 hv5 => ?_
          refine ⟨⟨Nat.le_refl _, Nat.le_refl _⟩, ?_⟩
          refine c_X5_put (fun _ _ => ?_) (fun e => absurd (ix_rng ha ⟨hs, hl, h0, by clear ih hq; grind⟩) e)
          rw [q2_qRow]
          refine qJ_nm (qWP_mono _) [(10, _), (9, _), (8, _)] [(7, .int (p + 1)), (6, .int n), (5, .int f), (4, .int t), (3, .int l), (2, .int s), (1, .int a), (0, .ref 2)] rfl rfl rfl ?_
          have hk : p < n := by clear ih hq; grind
          have e : gLy (I 63) (I 64 t.toNatClampNeg) t f a s l p tr = .inl (uI tr (tIx a s l p).toNatClampNeg v5) := by
            unfold gLy
            have hc : ¬ (f < 0 ∨ I 64 t.toNatClampNeg - p ≤ f) := fun hc => by rw [if_pos hc] at hv1; exact absurd hv1 (by assumption)
            rw [if_neg hc] at hv1 ⊢
            rw [← hv1]
            congr 2
            unfold fLy
            first
  | (rw [if_pos (by assumption)]; assumption)
  | (rw [if_neg (by assumption), if_neg (by clear ih hq; grind)]; assumption)
  | (have h97 : 97 ≤ v1 ∧ v1 ≤ 122 := by clear ih hq; grind
     rw [if_neg (by assumption), if_pos h97]
     rw [if_pos h97] at hv2
     rw [← hv2]
     assumption)
  | (exfalso; clear ih hq; grind)
          rw [upS_on hk e] at hq
          exact ih hk _ (by clear ih hq; grind) (by clear ih hq; grind) hq
      · refine ⟨fun (c5 : ¬ 26 = (-1)) => ?_, fun (c5 : 26 = (-1)) => ?_⟩
        · refine ⟨⟨Nat.le_refl _, Nat.le_refl _⟩, ?_⟩
          refine c_X5_told hst fun v7 hv7 => ?_
          refine ⟨⟨Nat.le_refl _, Nat.le_refl _⟩, ?_⟩
          refine c_X5_put (fun _ _ => ?_) (fun e => absurd (ix_rng ha ⟨hs, hl, h0, by clear ih hq; grind⟩) e)
          rw [q2_qRow]
          refine qJ_nm (qWP_mono _) [(10, _), (9, _), (8, _)] [(7, .int (p + 1)), (6, .int n), (5, .int f), (4, .int t), (3, .int l), (2, .int s), (1, .int a), (0, .ref 2)] rfl rfl rfl ?_
          have hk : p < n := by clear ih hq; grind
          have e : gLy (I 63) (I 64 t.toNatClampNeg) t f a s l p tr = .inl (uI tr (tIx a s l p).toNatClampNeg v7) := by
            unfold gLy
            have hc : ¬ (f < 0 ∨ I 64 t.toNatClampNeg - p ≤ f) := fun hc => by rw [if_pos hc] at hv1; exact absurd hv1 (by assumption)
            rw [if_neg hc] at hv1 ⊢
            rw [← hv1]
            congr 2
            unfold fLy
            first
  | (rw [if_pos (by assumption)]; assumption)
  | (rw [if_neg (by assumption), if_neg (by clear ih hq; grind)]; assumption)
  | (have h97 : 97 ≤ v1 ∧ v1 ≤ 122 := by clear ih hq; grind
     rw [if_neg (by assumption), if_pos h97]
     rw [if_pos h97] at hv2
     rw [← hv2]
     assumption)
  | (exfalso; clear ih hq; grind)
          rw [upS_on hk e] at hq
          exact ih hk _ (by clear ih hq; grind) (by clear ih hq; grind) hq
        · refine ⟨⟨Nat.le_refl _, Nat.le_refl _⟩, ?_⟩
          refine c_X5_told hst fun v9 hv9 => ?_
          refine ⟨⟨Nat.le_refl _, Nat.le_refl _⟩, ?_⟩
          refine c_X5_put (fun _ _ => ?_) (fun e => absurd (ix_rng ha ⟨hs, hl, h0, by clear ih hq; grind⟩) e)
          rw [q2_qRow]
          refine qJ_nm (qWP_mono _) [(10, _), (9, _), (8, _)] [(7, .int (p + 1)), (6, .int n), (5, .int f), (4, .int t), (3, .int l), (2, .int s), (1, .int a), (0, .ref 2)] rfl rfl rfl ?_
          have hk : p < n := by clear ih hq; grind
          have e : gLy (I 63) (I 64 t.toNatClampNeg) t f a s l p tr = .inl (uI tr (tIx a s l p).toNatClampNeg v9) := by
            unfold gLy
            have hc : ¬ (f < 0 ∨ I 64 t.toNatClampNeg - p ≤ f) := fun hc => by rw [if_pos hc] at hv1; exact absurd hv1 (by assumption)
            rw [if_neg hc] at hv1 ⊢
            rw [← hv1]
            congr 2
            unfold fLy
            first
  | (rw [if_pos (by assumption)]; assumption)
  | (rw [if_neg (by assumption), if_neg (by clear ih hq; grind)]; assumption)
  | (have h97 : 97 ≤ v1 ∧ v1 ≤ 122 := by clear ih hq; grind
     rw [if_neg (by assumption), if_pos h97]
     rw [if_pos h97] at hv2
     rw [← hv2]
     assumption)
  | (exfalso; clear ih hq; grind)
          rw [upS_on hk e] at hq
          exact ih hk _ (by clear ih hq; grind) (by clear ih hq; grind) hq
    · change Q (some (.int (-12))) (z, N, qRow I 8 tr, L, R)
      have hk : p < n := by clear ih hq; grind
      have e : gLy (I 63) (I 64 t.toNatClampNeg) t f a s l p tr = .inr (-12, tr) := by
        unfold gLy
        refine if_pos ?_
        by_cases hc : f < 0 ∨ I 64 t.toNatClampNeg - p ≤ f
        · exact hc
        · rw [if_neg hc] at hv1
          have := a255 (I 63 (t * 40 + f + p).toNatClampNeg)
          clear ih hq; grind
      rw [upS_out hk e] at hq
      exact hq
