/-! lay -/
def fLy (b : Int32) : Int32 := if b = 32 then fTd 0 26 else if 97 ≤ b ∧ b ≤ 122 then fTd 0 (b - 97) else fTd 3 0
def fLk (b : Int32) : Int32 := if b = 32 ∨ (97 ≤ b ∧ b ≤ 122) then 0 else 3
def fLm (b : Int32) : Int32 := if b = 32 then 1 <<< ((26 : Int32) &&& 31) else if 97 ≤ b ∧ b ≤ 122 then 1 <<< ((b - 97) &&& 31) else 134217727
theorem ly_rd (b : Int32) : rd1 (fLy b) (fLk b + 1) (fLm b) ∧ ¬ fLy b = 0 := by
  unfold fLy fLk fLm
  by_cases h : b = 32
  · rw [if_pos h, if_pos (Or.inl h), if_pos h]
    exact td_ok (k := 0) (v := 26) ⟨by decide, fun h => absurd h (by decide), fun _ => by decide⟩
  · rw [if_neg h, if_neg h]
    by_cases h2 : 97 ≤ b ∧ b ≤ 122
    · rw [if_pos h2, if_pos (Or.inr h2), if_pos h2]
      exact td_ok (k := 0) (v := b - 97) ⟨by decide, fun h => absurd h (by decide), fun _ => by grind⟩
    · rw [if_neg h2, if_neg (by grind), if_neg h2]
      exact td_ok (k := 3) (v := 0) ⟨by decide, fun h => absurd h (by decide), fun h => absurd h (by decide)⟩
def gLy (by_ : Nat → Int32) (sz t f a s l p : Int32) (tr : Nat → Int32) : Sum (Nat → Int32) (Int32 × (Nat → Int32)) :=
  if f < 0 ∨ sz - p ≤ f then .inr (-12, tr) else .inl (uI tr (tIx a s l p).toNatClampNeg (fLy (by_ (t * 40 + f + p).toNatClampNeg &&& 255)))
def gLr (by_ : Nat → Int32) (sz t f a s l p : Int32) (ky : (Nat → Int32) × (Nat → Int32)) : Sum ((Nat → Int32) × (Nat → Int32)) (Int32 × (Nat → Int32) × (Nat → Int32)) :=
  if f < 0 ∨ sz - p ≤ f then .inr (-12, ky) else .inl (uI ky.1 (tIx a s l p).toNatClampNeg (fLk (by_ (t * 40 + f + p).toNatClampNeg) + 1), uI ky.2 (tIx a s l p).toNatClampNeg (fLm (by_ (t * 40 + f + p).toNatClampNeg)))
def fLay (by_ : Nat → Int32) (sz t f a s l n : Int32) (tr : Nat → Int32) : Int32 × (Nat → Int32) := upS n (gLy by_ sz t f a s l) (fun tr => (n, tr)) 0 tr
def fLar (by_ : Nat → Int32) (sz t f a s l n : Int32) (ky : (Nat → Int32) × (Nat → Int32)) : Int32 × (Nat → Int32) × (Nat → Int32) := upS n (gLr by_ sz t f a s l) (fun ky => (n, ky)) 0 ky
theorem lay_rel {by_ by' : Nat → Int32} {sz t f a s l n : Int32} {tr k y : Nat → Int32} (ht : 0 ≤ t ∧ t < 4) (hz : -1 ≤ sz ∧ sz ≤ 40) (hn : 0 ≤ n ∧ n ≤ 24) (hb : ∀ j : Nat, j < 160 → by' j = by_ j &&& 255) (h : RTo tr k y) : (fLay by_ sz t f a s l n tr).1 = (fLar by' sz t f a s l n (k, y)).1 ∧ RTo (fLay by_ sz t f a s l n tr).2 (fLar by' sz t f a s l n (k, y)).2.1 (fLar by' sz t f a s l n (k, y)).2.2 := by
  refine upS_rel2 (fun _ (tr : Nat → Int32) (ky : (Nat → Int32) × (Nat → Int32)) => RTo tr ky.1 ky.2) (fun (r : Int32 × (Nat → Int32)) (q : Int32 × (Nat → Int32) × (Nat → Int32)) => r.1 = q.1 ∧ RTo r.2 q.2.1 q.2.2) (fun x y h => ⟨rfl, h⟩) (fun p x y h0 h1 h => ?_) 0 tr (k, y) (by decide) hn.1 h
  unfold gLy gLr
  by_cases hc : f < 0 ∨ sz - p ≤ f
  · rw [if_pos hc, if_pos hc]
    exact Or.inr ⟨_, _, rfl, rfl, rfl, h⟩
  · rw [if_neg hc, if_neg hc]
    have hr := fp_rng (f := f) (p := p) (z := sz) (fun h => hc (Or.inl h)) ⟨h0, by grind⟩ hz (fun h => hc (Or.inr h))
    have g := tr_ix (i := f + p) ht hr.1
    have e9 : t * 40 + (f + p) = t * 40 + f + p := by clear h hr g; grind
    rw [e9] at g
    have hj : (t * 40 + f + p).toNatClampNeg < 160 := by
      rw [tcn]
      have := Int32.lt_iff_toInt_lt.mp g.1.2
      rw [show (160 : Int32).toInt = 160 from rfl] at this
      omega
    refine Or.inl ⟨_, _, rfl, rfl, ?_⟩
    rw [hb _ hj]
    exact RTo_put h (ly_rd _).1
theorem lg_lt {a b : Int64} : lg_cmp a b < 0 ↔ a < b := by
  unfold lg_cmp
  split
  · rename_i h
    refine ⟨fun h2 => absurd h2 (by decide), fun h2 => ?_⟩
    rw [gt_iff_lt, Int64.lt_iff_toInt_lt] at h
    rw [Int64.lt_iff_toInt_lt] at h2
    omega
  · split
    · rename_i h1 h2
      refine ⟨fun h2 => absurd h2 (by decide), fun h2 => ?_⟩
      subst_vars
      rw [Int64.lt_iff_toInt_lt] at h2
      omega
    · rename_i h1 h2
      refine ⟨fun _ => ?_, fun _ => by decide⟩
      rw [gt_iff_lt, Int64.lt_iff_toInt_lt] at h1
      rw [Int64.lt_iff_toInt_lt]
      have h3 : ¬ a.toInt = b.toInt := fun e => h2 (Int64.toInt_inj.mp e)
      omega
theorem i64_add {f p : Int32} : (f.toInt64 + p.toInt64).toInt = f.toInt + p.toInt := by
  have h1 := Int32.toInt_lt f
  have h2 := Int32.le_toInt f
  have h3 := Int32.toInt_lt p
  have h4 := Int32.le_toInt p
  rw [Int64.toInt_add, Int32.toInt_toInt64, Int32.toInt_toInt64]
  exact Int.bmod_eq_of_le (by omega) (by omega)
theorem lay_c {f p sz : Int32} (hp : 0 ≤ p ∧ p < 24) (hz : -1 ≤ sz ∧ sz ≤ 40) (h : p = 0 ∨ ¬ f < 0) : (f.toInt64 + p.toInt64 < 0 ∨ ¬ f.toInt64 + p.toInt64 < sz.toInt64) ↔ (f < 0 ∨ sz - p ≤ f) := by
  rw [Int64.lt_iff_toInt_lt, Int64.lt_iff_toInt_lt, i64_add, Int32.toInt_toInt64, show (0 : Int64).toInt = 0 from rfl]
  have e1 : (sz - p).toInt = sz.toInt - p.toInt := by
    simp only [fa_lt, fa_le] at hp hz
    rw [show (0 : Int32).toInt = 0 from rfl, show (24 : Int32).toInt = 24 from rfl] at hp
    rw [show (-1 : Int32).toInt = -1 from rfl, show (40 : Int32).toInt = 40 from rfl] at hz
    exact ti_sub (by omega)
  have hp0 : p = 0 → p.toInt = 0 := fun e => by rw [e]; rfl
  simp only [fa_lt, fa_le, e1] at *
  rw [show (0 : Int32).toInt = 0 from rfl] at *
  rcases h with h | h
  · have := hp0 h; omega
  · omega
theorem l_X11_lay {d z : Nat} {N : Nat → Nat} {I : Nat → Nat → Int32} {L : Nat → Nat → Int64} {R : Nat → Nat → Option Nat} {Q : qP} {a s l t f n : Int32} (hst : qStat (z, N, I, L, R)) (ha : 0 ≤ a ∧ a < 6) (hs : 0 ≤ s ∧ s < 12) (hl : 0 ≤ l ∧ l < 4) (ht : 0 ≤ t ∧ t < 4) (hn : 0 ≤ n ∧ n ≤ 24) (hz : -1 ≤ I 64 t.toNatClampNeg ∧ I 64 t.toNatClampNeg ≤ 40) : ∀ (p : Int32), ∀ tr : Nat → Int32, 0 ≤ p → p ≤ n → Q (some (.int (upS n (gLy (I 63) (I 64 t.toNatClampNeg) t f a s l) (fun tr => (n, tr)) p tr).1)) (z, N, qRow I 8 (upS n (gLy (I 63) (I 64 t.toNatClampNeg) t f a s l) (fun tr => (n, tr)) p tr).2, L, R) → qJ m_X11_lay (qWP (d + 4)) Q 62 [(7, .int p), (6, .int n), (5, .int f), (4, .int t), (3, .int l), (2, .int s), (1, .int a), (0, .ref 2)] [] 0 0 (z, N, qRow I 8 tr, L, R) := by
  refine up_ind (n) fun p ih => ?_
  intro tr h0 h1 hq
  refine qJ_run (qWP_mono _) [62] 400 ?_
  refine ⟨fun (c1 : n ≤ p) => ?_, fun (c1 : ¬ n ≤ p) => ?_⟩
  · change Q (some (.int n)) (z, N, qRow I 8 tr, L, R)
    rw [upS_ge (by clear ih hq; grind)] at hq
    exact hq
  · refine ⟨⟨Nat.le_refl _, Nat.le_refl _⟩, ?_⟩
    refine c_X10_byteAt (by exact ht) (by simp (decide := true) only [qRow_ne]; exact hz) ⟨h0, by clear ih hq; grind⟩ fun v1 hv1 => ?_
    simp (decide := true) only [qRow_ne] at hv1
    refine ⟨fun (c2 : ¬ v1 = (-1)) => ?_, fun (c2 : v1 = (-1)) => ?_⟩
    · refine ⟨fun (c3 : ¬ v1 = 32) => ?_, fun (c3 : v1 = 32) => ?_⟩
      · refine ⟨⟨Nat.le_refl _, Nat.le_refl _⟩, ?_⟩
        refine c_X8_letterOf fun v2 hv2 => ?_
        refine ⟨fun (c4 : ¬ v2 = (-1)) => ?_, fun (c4 : v2 = (-1)) => ?_⟩
        · refine ⟨⟨Nat.le_refl _, Nat.le_refl _⟩, ?_⟩
          refine c_X5_told hst fun v3 hv3 => ?_
          replace hv3 : v3 = fTd 0 v2 := hv3
          refine ⟨⟨Nat.le_refl _, Nat.le_refl _⟩, ?_⟩
          refine c_X5_put (fun e1 e2 => ?_) (fun e => absurd (ix_rng ha ⟨hs, hl, h0, by clear ih hq; grind⟩) e)
          clear e1 e2
          rw [q2_qRow]
          refine qJ_nm (qWP_mono _) [(10, _), (9, _), (8, _)] [(7, .int (p + 1)), (6, .int n), (5, .int f), (4, .int t), (3, .int l), (2, .int s), (1, .int a), (0, .ref 2)] rfl rfl rfl ?_
          have hk : p < n := by clear ih hq; grind
          have e : gLy (I 63) (I 64 t.toNatClampNeg) t f a s l p tr = .inl (uI tr (tIx a s l p).toNatClampNeg v3) := by
            unfold gLy
            have hc : ¬ (f < 0 ∨ I 64 t.toNatClampNeg - p ≤ f) := fun hc => by rw [if_pos hc] at hv1; exact absurd hv1 (by assumption)
            rw [if_neg hc] at hv1 ⊢
            rw [← hv1]
            congr 2
            unfold fLy
            first
  | (rw [if_pos (by assumption)]; symm; assumption)
  | (rw [if_neg (by assumption), if_neg (by clear ih hq; grind)]; symm; assumption)
  | (have h97 : 97 ≤ v1 ∧ v1 ≤ 122 := by clear ih hq; grind
     rw [if_neg (by assumption), if_pos h97]
     rw [if_pos h97] at hv2
     rw [← hv2]
     symm
     assumption)
  | (exfalso; clear ih hq; grind)
          rw [upS_on hk e] at hq
          exact ih hk _ (by clear ih hq; grind) (by clear ih hq; grind) hq
        · refine ⟨⟨Nat.le_refl _, Nat.le_refl _⟩, ?_⟩
          refine c_X5_told hst fun v5 hv5 => ?_
          replace hv5 : v5 = fTd 3 0 := hv5
          refine ⟨⟨Nat.le_refl _, Nat.le_refl _⟩, ?_⟩
          refine c_X5_put (fun e1 e2 => ?_) (fun e => absurd (ix_rng ha ⟨hs, hl, h0, by clear ih hq; grind⟩) e)
          clear e1 e2
          rw [q2_qRow]
          refine qJ_nm (qWP_mono _) [(10, _), (9, _), (8, _)] [(7, .int (p + 1)), (6, .int n), (5, .int f), (4, .int t), (3, .int l), (2, .int s), (1, .int a), (0, .ref 2)] rfl rfl rfl ?_
          have hk : p < n := by clear ih hq; grind
          have e : gLy (I 63) (I 64 t.toNatClampNeg) t f a s l p tr = .inl (uI tr (tIx a s l p).toNatClampNeg v5) := by
            unfold gLy
            have hc : ¬ (f < 0 ∨ I 64 t.toNatClampNeg - p ≤ f) := fun hc => by rw [if_pos hc] at hv1; exact absurd hv1 (by assumption)
            rw [if_neg hc] at hv1 ⊢
            rw [← hv1]
            congr 2
            unfold fLy
            first
  | (rw [if_pos (by assumption)]; symm; assumption)
  | (rw [if_neg (by assumption), if_neg (by clear ih hq; grind)]; symm; assumption)
  | (have h97 : 97 ≤ v1 ∧ v1 ≤ 122 := by clear ih hq; grind
     rw [if_neg (by assumption), if_pos h97]
     rw [if_pos h97] at hv2
     rw [← hv2]
     symm
     assumption)
  | (exfalso; clear ih hq; grind)
          rw [upS_on hk e] at hq
          exact ih hk _ (by clear ih hq; grind) (by clear ih hq; grind) hq
      · refine ⟨fun _ => ?_, fun h => absurd h (by decide)⟩
        refine ⟨⟨Nat.le_refl _, Nat.le_refl _⟩, ?_⟩
        refine c_X5_told hst fun v7 hv7 => ?_
        replace hv7 : v7 = fTd 0 26 := hv7
        refine ⟨⟨Nat.le_refl _, Nat.le_refl _⟩, ?_⟩
        refine c_X5_put (fun e1 e2 => ?_) (fun e => absurd (ix_rng ha ⟨hs, hl, h0, by clear ih hq; grind⟩) e)
        clear e1 e2
        rw [q2_qRow]
        refine qJ_nm (qWP_mono _) [(10, _), (9, _), (8, _)] [(7, .int (p + 1)), (6, .int n), (5, .int f), (4, .int t), (3, .int l), (2, .int s), (1, .int a), (0, .ref 2)] rfl rfl rfl ?_
        have hk : p < n := by clear ih hq; grind
        have e : gLy (I 63) (I 64 t.toNatClampNeg) t f a s l p tr = .inl (uI tr (tIx a s l p).toNatClampNeg v7) := by
          unfold gLy
          have hc : ¬ (f < 0 ∨ I 64 t.toNatClampNeg - p ≤ f) := fun hc => by rw [if_pos hc] at hv1; exact absurd hv1 (by assumption)
          rw [if_neg hc] at hv1 ⊢
          rw [← hv1]
          congr 2
          unfold fLy
          first
  | (rw [if_pos (by assumption)]; symm; assumption)
  | (rw [if_neg (by assumption), if_neg (by clear ih hq; grind)]; symm; assumption)
  | (have h97 : 97 ≤ v1 ∧ v1 ≤ 122 := by clear ih hq; grind
     rw [if_neg (by assumption), if_pos h97]
     rw [if_pos h97] at hv2
     rw [← hv2]
     symm
     assumption)
  | (exfalso; clear ih hq; grind)
        rw [upS_on hk e] at hq
        exact ih hk _ (by clear ih hq; grind) (by clear ih hq; grind) hq
    · change Q (some (.int (-12))) (z, N, qRow I 8 tr, L, R)
      have hk : p < n := by clear ih hq; grind
      have e : gLy (I 63) (I 64 t.toNatClampNeg) t f a s l p tr = .inr (-12, tr) := by
        unfold gLy
        refine if_pos ?_
        by_cases hc : f < 0 ∨ I 64 t.toNatClampNeg - p ≤ f
        · exact hc
        · rw [if_neg hc] at hv1
          have := a255 (I 63 (t * 40 + f + p).toNatClampNeg)
          clear ih hq; grind
      rw [upS_out hk e] at hq
      exact hq
theorem c_X11_lay {d z : Nat} {N : Nat → Nat} {I : Nat → Nat → Int32} {L : Nat → Nat → Int64} {R : Nat → Nat → Option Nat} {Q : qP} {a : Int32} {s : Int32} {l : Int32} {t : Int32} {f : Int32} (hs : 0 ≤ I 3 2 ∧ I 3 2 ≤ 12) (hn : 0 ≤ I 6 2 ∧ I 6 2 ≤ 6) (hl : ∀ x : Int32, 0 ≤ x → x < I 3 2 → (1 ≤ I 4 x.toNatClampNeg ∧ I 4 x.toNatClampNeg ≤ 4) ∧ 1 ≤ I 5 x.toNatClampNeg ∧ I 5 x.toNatClampNeg ≤ 24) (hz : ∀ x : Int32, 0 ≤ x → x < 4 → -1 ≤ I 64 x.toNatClampNeg ∧ I 64 x.toNatClampNeg ≤ 40) (hst : qStat (z, N, I, L, R)) (h0 : ¬ ((0 ≤ a ∧ a < I 6 2) ∧ ((0 ≤ s ∧ s < I 3 2) ∧ 0 ≤ l ∧ l < I 4 s.toNatClampNeg) ∧ 0 ≤ t ∧ t < 4) → Q (some (.int (-2))) (z, N, I, L, R)) (h1 : ((0 ≤ a ∧ a < I 6 2) ∧ ((0 ≤ s ∧ s < I 3 2) ∧ 0 ≤ l ∧ l < I 4 s.toNatClampNeg) ∧ 0 ≤ t ∧ t < 4) → I 64 t.toNatClampNeg < 0 → Q (some (.int (-11))) (z, N, I, L, R)) (h2 : ((0 ≤ a ∧ a < I 6 2) ∧ ((0 ≤ s ∧ s < I 3 2) ∧ 0 ≤ l ∧ l < I 4 s.toNatClampNeg) ∧ 0 ≤ t ∧ t < 4) → 0 ≤ I 64 t.toNatClampNeg → Q (some (.int (fLay (I 63) (I 64 t.toNatClampNeg) t f a s l (I 5 s.toNatClampNeg) (I 8)).1)) (z, N, qRow I 8 (fLay (I 63) (I 64 t.toNatClampNeg) t f a s l (I 5 s.toNatClampNeg) (I 8)).2, L, R)) : qWP (d + 5) 164 [.ref 2, .int a, .int s, .int l, .int t, .int f] (z, N, I, L, R) Q := by
  refine qWP_of m_X11_lay rfl rfl [(0, .ref 2), (1, .int a), (2, .int s), (3, .int l), (4, .int t), (5, .int f)] rfl ?_
  refine qJ_run (qWP_mono _) [62] 400 ?_
  refine ⟨⟨Nat.le_refl _, Nat.le_refl _⟩, ?_⟩
  refine c_X5_hasHand hn fun v1 hv1 => ?_
  refine ⟨fun (c1 : v1 = 0) => ?_, fun (c1 : ¬ v1 = 0) => ?_⟩
  · change Q (some (.int (-2))) (z, N, I, L, R)
    exact h0 (by clear h0 h1 h2; grind)
  · refine ⟨⟨Nat.le_refl _, Nat.le_refl _⟩, ?_⟩
    refine c_X6_hasLine hs fun v2 hv2 => ?_
    refine ⟨fun (c2 : v2 = 0) => ?_, fun (c2 : ¬ v2 = 0) => ?_⟩
    · change Q (some (.int (-2))) (z, N, I, L, R)
      exact h0 (by clear h0 h1 h2; grind)
    · refine ⟨⟨Nat.le_refl _, Nat.le_refl _⟩, ?_⟩
      refine c_X10_has fun v3 hv3 => ?_
      refine ⟨fun (c3 : ¬ v3 = 0) => ?_, fun (c3 : v3 = 0) => ?_⟩
      · refine ⟨⟨Nat.le_refl _, Nat.le_refl _⟩, ?_⟩
        refine c_X10_isMissing fun v4 hv4 => ?_
        refine ⟨fun (c4 : v4 = 0) => ?_, fun (c4 : ¬ v4 = 0) => ?_⟩
        · refine ⟨⟨Nat.le_refl _, Nat.le_refl _⟩, ?_⟩
          refine c_X6_placesOf hs fun v5 hv5 => ?_
          refine qJ_nm (qWP_mono _) [] [(7, .int 0), (6, .int v5), (5, .int f), (4, .int t), (3, .int l), (2, .int s), (1, .int a), (0, .ref 2)] rfl rfl rfl ?_
          have hg : ((0 ≤ a ∧ a < I 6 2) ∧ ((0 ≤ s ∧ s < I 3 2) ∧ 0 ≤ l ∧ l < I 4 s.toNatClampNeg) ∧ 0 ≤ t ∧ t < 4) := by clear h0 h1 h2; grind
          rw [if_pos hg.2.1.1] at hv5
          subst hv5
          have hls := hl s hg.2.1.1.1 hg.2.1.1.2
          have hzt := hz t hg.2.2.1 hg.2.2.2
          refine qJ_M (M2 := (z, N, qRow I 8 (I 8), L, R)) (by rw [qRow_self]) ?_
          exact l_X11_lay (d := d) hst ⟨hg.1.1, by clear h0 h1 h2; grind⟩ ⟨hg.2.1.1.1, by clear h0 h1 h2; grind⟩ ⟨hg.2.1.2.1, by clear h0 h1 h2; grind⟩ hg.2.2 ⟨by clear h0 h1 h2; grind, hls.2.2⟩ hzt 0 _ (by decide) (by clear h0 h1 h2; grind) (h2 hg (by clear h0 h1 h2; grind))
        · change Q (some (.int (-11))) (z, N, I, L, R)
          exact h1 (by clear h0 h1 h2; grind) (by have := hz t (by clear h0 h1 h2; grind) (by clear h0 h1 h2; grind); clear h0 h1 h2; grind)
      · change Q (some (.int (-2))) (z, N, I, L, R)
        exact h0 (by clear h0 h1 h2; grind)
theorem l_X12_lay {d z : Nat} {N : Nat → Nat} {I : Nat → Nat → Int32} {L : Nat → Nat → Int64} {R : Nat → Nat → Option Nat} {Q : qP} {a s l t f : Int32} (ha : 0 ≤ a ∧ a < 6) (hs : 0 ≤ s ∧ s < 12) (hl : 0 ≤ l ∧ l < 4) (ht : 0 ≤ t ∧ t < 4) (hn : 1 ≤ I 67 s.toNatClampNeg ∧ I 67 s.toNatClampNeg ≤ 24) (hz : -1 ≤ I 94 t.toNatClampNeg ∧ I 94 t.toNatClampNeg ≤ 40) : ∀ (p : Int32), ∀ kr yr : Nat → Int32, 0 ≤ p → p ≤ I 67 s.toNatClampNeg → (p = 0 ∨ ¬ f < 0) → Q (some (.int (upS (I 67 s.toNatClampNeg) (gLr (I 95) (I 94 t.toNatClampNeg) t f a s l) (fun ky => (I 67 s.toNatClampNeg, ky)) p (kr, yr)).1)) (z, N, qRow (qRow I 70 (upS (I 67 s.toNatClampNeg) (gLr (I 95) (I 94 t.toNatClampNeg) t f a s l) (fun ky => (I 67 s.toNatClampNeg, ky)) p (kr, yr)).2.1) 71 (upS (I 67 s.toNatClampNeg) (gLr (I 95) (I 94 t.toNatClampNeg) t f a s l) (fun ky => (I 67 s.toNatClampNeg, ky)) p (kr, yr)).2.2, L, R) → qJ m_X12_lay (qWP (d + 4)) Q 48 [(6, .int p), (5, .int f), (4, .int t), (3, .int l), (2, .int s), (1, .int a), (0, .ref 65)] [] 0 0 (z, N, qRow (qRow I 70 kr) 71 yr, L, R) := by
  refine up_ind (I 67 s.toNatClampNeg) fun p ih => ?_
  intro kr yr h0 h1 h2 hq
  refine qJ_run (qWP_mono _) [48] 400 ?_
  refine ⟨?_, ?_⟩
  · exact vb (x := s) (N := 12) 12 (by decide) (by clear ih hq; grind) (by clear ih hq; grind)
  refine ⟨fun (c1 : (I 67 ((s).toNatClampNeg)) ≤ p) => ?_, fun (c1 : ¬ (I 67 ((s).toNatClampNeg)) ≤ p) => ?_⟩
  · refine ⟨?_, ?_⟩
    · exact vb (x := s) (N := 12) 12 (by decide) (by clear ih hq; grind) (by clear ih hq; grind)
    change Q (some (.int (I 67 ((s).toNatClampNeg)))) (z, N, qRow (qRow I 70 kr) 71 yr, L, R)
    rw [upS_ge (by clear ih hq; grind)] at hq
    exact hq
  · refine ⟨fun (c2 : (lg_cmp ((Int32.toInt64 f) + (Int32.toInt64 p)) 0) < 0) => ?_, fun (c2 : ¬ (lg_cmp ((Int32.toInt64 f) + (Int32.toInt64 p)) 0) < 0) => ?_⟩
    · change Q (some (.int (-12))) (z, N, qRow (qRow I 70 kr) 71 yr, L, R)
      have hk : p < I 67 s.toNatClampNeg := by clear ih hq; grind
      have hpr : 0 ≤ p ∧ p < 24 := by clear ih hq; grind
      have hcc := lay_c (f := f) hpr hz h2
      have e : gLr (I 95) (I 94 t.toNatClampNeg) t f a s l p (kr, yr) = .inr (-12, (kr, yr)) := by
        unfold gLr
        refine if_pos (hcc.mp ?_)
        first | exact Or.inl (lg_lt.mp (by assumption)) | exact Or.inr (fun hh => absurd (lg_lt.mpr hh) (by assumption))
      rw [upS_out hk e] at hq
      exact hq
    · refine ⟨?_, ?_⟩
      · exact vb (x := t) (N := 4) 4 (by decide) (by clear ih hq; grind) (by clear ih hq; grind)
      refine ⟨fun (c3 : (lg_cmp ((Int32.toInt64 f) + (Int32.toInt64 p)) (Int32.toInt64 (I 94 ((t).toNatClampNeg)))) < 0) => ?_, fun (c3 : ¬ (lg_cmp ((Int32.toInt64 f) + (Int32.toInt64 p)) (Int32.toInt64 (I 94 ((t).toNatClampNeg)))) < 0) => ?_⟩
      · refine ⟨?_, ?_⟩
        · have hk : p < I 67 s.toNatClampNeg := by clear ih hq; grind
          have hpr : 0 ≤ p ∧ p < 24 := by clear ih hq; grind
          have hcc := lay_c (f := f) hpr hz h2
          have hc : ¬ (f < 0 ∨ I 94 t.toNatClampNeg - p ≤ f) := fun hc => by
            rcases hcc.mpr hc with hh | hh
            · exact absurd (lg_lt.mpr hh) (by assumption)
            · exact absurd (lg_lt.mp (by assumption)) hh
          have hr := fp_rng (f := f) (p := p) (z := I 94 t.toNatClampNeg) (fun h => hc (Or.inl h)) hpr hz (fun h => hc (Or.inr h))
          have g := tr_ix (i := f + p) ht hr.1
          have e9 : Int64.toInt32 (Int32.toInt64 f + Int32.toInt64 p) = f + p := by simp
          have e8 : t * 40 + (f + p) = t * 40 + f + p := by clear ih hq hr g hcc; grind
          rw [e9]
          rw [← g.2.1] at g
          exact vb (N := 160) 160 (by decide) g.1.1 g.1.2
        refine ⟨⟨Nat.le_refl _, Nat.le_refl _⟩, ?_⟩
        refine c_X12_isLetter fun v1 hv1 => ?_
        replace hv1 : v1 = if 97 ≤ (I 95 (((40 * t) + (Int64.toInt32 ((Int32.toInt64 f) + (Int32.toInt64 p)))).toNatClampNeg)) ∧ (I 95 (((40 * t) + (Int64.toInt32 ((Int32.toInt64 f) + (Int32.toInt64 p)))).toNatClampNeg)) ≤ 122 then 1 else 0 := hv1
        refine ⟨fun (c4 : ¬ v1 = 0) => ?_, fun (c4 : v1 = 0) => ?_⟩
        · refine ⟨fun h => absurd h (by decide), fun _ => ?_⟩
          refine ⟨fun h => absurd h (by decide), fun _ => ?_⟩
          refine ⟨fun (c5 : ¬ (I 95 (((40 * t) + (Int64.toInt32 ((Int32.toInt64 f) + (Int32.toInt64 p)))).toNatClampNeg)) = 32) => ?_, fun (c5 : (I 95 (((40 * t) + (Int64.toInt32 ((Int32.toInt64 f) + (Int32.toInt64 p)))).toNatClampNeg)) = 32) => ?_⟩
          · refine ⟨⟨Nat.le_refl _, Nat.le_refl _⟩, ?_⟩
            refine c_X12_reads (ix_rng ha ⟨hs, hl, h0, by clear ih hq; grind⟩) ?_
            rw [q2_qRow2 (by decide), q2_qRow]
            refine qJ_nm (qWP_mono _) [(10, _), (9, _), (7, _)] [(6, .int (p + 1)), (5, .int f), (4, .int t), (3, .int l), (2, .int s), (1, .int a), (0, .ref 65)] rfl rfl rfl ?_
            have hk : p < I 67 s.toNatClampNeg := by clear ih hq; grind
            have hpr : 0 ≤ p ∧ p < 24 := by clear ih hq; grind
            have hcc := lay_c (f := f) hpr hz h2
            have hc : ¬ (f < 0 ∨ I 94 t.toNatClampNeg - p ≤ f) := fun hc => by
              rcases hcc.mpr hc with hh | hh
              · exact absurd (lg_lt.mpr hh) (by assumption)
              · exact absurd (lg_lt.mp (by assumption)) hh
            have hr := fp_rng (f := f) (p := p) (z := I 94 t.toNatClampNeg) (fun h => hc (Or.inl h)) hpr hz (fun h => hc (Or.inr h))
            have g := tr_ix (i := f + p) ht hr.1
            have e9 : Int64.toInt32 (Int32.toInt64 f + Int32.toInt64 p) = f + p := by simp
            have e8 : t * 40 + (f + p) = t * 40 + f + p := by clear ih hq hr g hcc; grind
            have e : gLr (I 95) (I 94 t.toNatClampNeg) t f a s l p (kr, yr) = .inl (uI kr (tIx a s l p).toNatClampNeg (0 + 1), uI yr (tIx a s l p).toNatClampNeg ((1 : Int32) <<< (((I 95 (((40 * t) + (Int64.toInt32 ((Int32.toInt64 f) + (Int32.toInt64 p)))).toNatClampNeg)) - 97) &&& 31))) := by
              unfold gLr
              rw [if_neg hc, ← e8, ← g.2.1, ← e9]
              unfold fLk fLm
              dsimp only
              clear ih hq hcc hc g hr e8
              generalize (I 95 (40 * t + (Int64.toInt32 (Int32.toInt64 f + Int32.toInt64 p))).toNatClampNeg) = b at *
              first
              | (rw [if_pos (by grind), if_pos (by grind)]; done)
              | (rw [if_pos (by grind), if_neg (by grind), if_pos (by grind)]; done)
              | (rw [if_neg (by grind), if_neg (by grind), if_neg (by grind)]; done)
              | (exfalso; grind)
            rw [upS_on hk e] at hq
            exact ih hk _ _ (by clear ih hq hr g; grind) (by clear ih hq hr g; grind) (Or.inr fun h => hc (Or.inl h)) hq
          · refine ⟨⟨Nat.le_refl _, Nat.le_refl _⟩, ?_⟩
            refine c_X12_reads (ix_rng ha ⟨hs, hl, h0, by clear ih hq; grind⟩) ?_
            rw [q2_qRow2 (by decide), q2_qRow]
            refine qJ_nm (qWP_mono _) [(10, _), (9, _), (7, _)] [(6, .int (p + 1)), (5, .int f), (4, .int t), (3, .int l), (2, .int s), (1, .int a), (0, .ref 65)] rfl rfl rfl ?_
            have hk : p < I 67 s.toNatClampNeg := by clear ih hq; grind
            have hpr : 0 ≤ p ∧ p < 24 := by clear ih hq; grind
            have hcc := lay_c (f := f) hpr hz h2
            have hc : ¬ (f < 0 ∨ I 94 t.toNatClampNeg - p ≤ f) := fun hc => by
              rcases hcc.mpr hc with hh | hh
              · exact absurd (lg_lt.mpr hh) (by assumption)
              · exact absurd (lg_lt.mp (by assumption)) hh
            have hr := fp_rng (f := f) (p := p) (z := I 94 t.toNatClampNeg) (fun h => hc (Or.inl h)) hpr hz (fun h => hc (Or.inr h))
            have g := tr_ix (i := f + p) ht hr.1
            have e9 : Int64.toInt32 (Int32.toInt64 f + Int32.toInt64 p) = f + p := by simp
            have e8 : t * 40 + (f + p) = t * 40 + f + p := by clear ih hq hr g hcc; grind
            have e : gLr (I 95) (I 94 t.toNatClampNeg) t f a s l p (kr, yr) = .inl (uI kr (tIx a s l p).toNatClampNeg (0 + 1), uI yr (tIx a s l p).toNatClampNeg ((1 : Int32) <<< (26 &&& 31))) := by
              unfold gLr
              rw [if_neg hc, ← e8, ← g.2.1, ← e9]
              unfold fLk fLm
              dsimp only
              clear ih hq hcc hc g hr e8
              generalize (I 95 (40 * t + (Int64.toInt32 (Int32.toInt64 f + Int32.toInt64 p))).toNatClampNeg) = b at *
              first
              | (rw [if_pos (by grind), if_pos (by grind)]; done)
              | (rw [if_pos (by grind), if_neg (by grind), if_pos (by grind)]; done)
              | (rw [if_neg (by grind), if_neg (by grind), if_neg (by grind)]; done)
              | (exfalso; grind)
            rw [upS_on hk e] at hq
            exact ih hk _ _ (by clear ih hq hr g; grind) (by clear ih hq hr g; grind) (Or.inr fun h => hc (Or.inl h)) hq
        · refine ⟨fun (c6 : ¬ (I 95 (((40 * t) + (Int64.toInt32 ((Int32.toInt64 f) + (Int32.toInt64 p)))).toNatClampNeg)) = 32) => ?_, fun (c6 : (I 95 (((40 * t) + (Int64.toInt32 ((Int32.toInt64 f) + (Int32.toInt64 p)))).toNatClampNeg)) = 32) => ?_⟩
          · refine ⟨fun _ => ?_, fun h => absurd h (by decide)⟩
            refine ⟨fun _ => ?_, fun h => absurd h (by decide)⟩
            refine ⟨⟨Nat.le_refl _, Nat.le_refl _⟩, ?_⟩
            refine c_X12_reads (ix_rng ha ⟨hs, hl, h0, by clear ih hq; grind⟩) ?_
            rw [q2_qRow2 (by decide), q2_qRow]
            refine qJ_nm (qWP_mono _) [(10, _), (9, _), (7, _)] [(6, .int (p + 1)), (5, .int f), (4, .int t), (3, .int l), (2, .int s), (1, .int a), (0, .ref 65)] rfl rfl rfl ?_
            have hk : p < I 67 s.toNatClampNeg := by clear ih hq; grind
            have hpr : 0 ≤ p ∧ p < 24 := by clear ih hq; grind
            have hcc := lay_c (f := f) hpr hz h2
            have hc : ¬ (f < 0 ∨ I 94 t.toNatClampNeg - p ≤ f) := fun hc => by
              rcases hcc.mpr hc with hh | hh
              · exact absurd (lg_lt.mpr hh) (by assumption)
              · exact absurd (lg_lt.mp (by assumption)) hh
            have hr := fp_rng (f := f) (p := p) (z := I 94 t.toNatClampNeg) (fun h => hc (Or.inl h)) hpr hz (fun h => hc (Or.inr h))
            have g := tr_ix (i := f + p) ht hr.1
            have e9 : Int64.toInt32 (Int32.toInt64 f + Int32.toInt64 p) = f + p := by simp
            have e8 : t * 40 + (f + p) = t * 40 + f + p := by clear ih hq hr g hcc; grind
            have e : gLr (I 95) (I 94 t.toNatClampNeg) t f a s l p (kr, yr) = .inl (uI kr (tIx a s l p).toNatClampNeg (3 + 1), uI yr (tIx a s l p).toNatClampNeg 134217727) := by
              unfold gLr
              rw [if_neg hc, ← e8, ← g.2.1, ← e9]
              unfold fLk fLm
              dsimp only
              clear ih hq hcc hc g hr e8
              generalize (I 95 (40 * t + (Int64.toInt32 (Int32.toInt64 f + Int32.toInt64 p))).toNatClampNeg) = b at *
              first
              | (rw [if_pos (by grind), if_pos (by grind)]; done)
              | (rw [if_pos (by grind), if_neg (by grind), if_pos (by grind)]; done)
              | (rw [if_neg (by grind), if_neg (by grind), if_neg (by grind)]; done)
              | (exfalso; grind)
            rw [upS_on hk e] at hq
            exact ih hk _ _ (by clear ih hq hr g; grind) (by clear ih hq hr g; grind) (Or.inr fun h => hc (Or.inl h)) hq
          · refine ⟨fun h => absurd h (by decide), fun _ => ?_⟩
            refine ⟨fun h => absurd h (by decide), fun _ => ?_⟩
            refine ⟨fun (c7 : ¬ (I 95 (((40 * t) + (Int64.toInt32 ((Int32.toInt64 f) + (Int32.toInt64 p)))).toNatClampNeg)) = 32) => ?_, fun (c7 : (I 95 (((40 * t) + (Int64.toInt32 ((Int32.toInt64 f) + (Int32.toInt64 p)))).toNatClampNeg)) = 32) => ?_⟩
            · refine ⟨⟨Nat.le_refl _, Nat.le_refl _⟩, ?_⟩
              refine c_X12_reads (ix_rng ha ⟨hs, hl, h0, by clear ih hq; grind⟩) ?_
              rw [q2_qRow2 (by decide), q2_qRow]
              refine qJ_nm (qWP_mono _) [(10, _), (9, _), (7, _)] [(6, .int (p + 1)), (5, .int f), (4, .int t), (3, .int l), (2, .int s), (1, .int a), (0, .ref 65)] rfl rfl rfl ?_
              have hk : p < I 67 s.toNatClampNeg := by clear ih hq; grind
              have hpr : 0 ≤ p ∧ p < 24 := by clear ih hq; grind
              have hcc := lay_c (f := f) hpr hz h2
              have hc : ¬ (f < 0 ∨ I 94 t.toNatClampNeg - p ≤ f) := fun hc => by
                rcases hcc.mpr hc with hh | hh
                · exact absurd (lg_lt.mpr hh) (by assumption)
                · exact absurd (lg_lt.mp (by assumption)) hh
              have hr := fp_rng (f := f) (p := p) (z := I 94 t.toNatClampNeg) (fun h => hc (Or.inl h)) hpr hz (fun h => hc (Or.inr h))
              have g := tr_ix (i := f + p) ht hr.1
              have e9 : Int64.toInt32 (Int32.toInt64 f + Int32.toInt64 p) = f + p := by simp
              have e8 : t * 40 + (f + p) = t * 40 + f + p := by clear ih hq hr g hcc; grind
              have e : gLr (I 95) (I 94 t.toNatClampNeg) t f a s l p (kr, yr) = .inl (uI kr (tIx a s l p).toNatClampNeg (0 + 1), uI yr (tIx a s l p).toNatClampNeg ((1 : Int32) <<< (((I 95 (((40 * t) + (Int64.toInt32 ((Int32.toInt64 f) + (Int32.toInt64 p)))).toNatClampNeg)) - 97) &&& 31))) := by
                unfold gLr
                rw [if_neg hc, ← e8, ← g.2.1, ← e9]
                unfold fLk fLm
                dsimp only
                clear ih hq hcc hc g hr e8
                generalize (I 95 (40 * t + (Int64.toInt32 (Int32.toInt64 f + Int32.toInt64 p))).toNatClampNeg) = b at *
                first
                | (rw [if_pos (by grind), if_pos (by grind)]; done)
                | (rw [if_pos (by grind), if_neg (by grind), if_pos (by grind)]; done)
                | (rw [if_neg (by grind), if_neg (by grind), if_neg (by grind)]; done)
                | (exfalso; grind)
              rw [upS_on hk e] at hq
              exact ih hk _ _ (by clear ih hq hr g; grind) (by clear ih hq hr g; grind) (Or.inr fun h => hc (Or.inl h)) hq
            · refine ⟨⟨Nat.le_refl _, Nat.le_refl _⟩, ?_⟩
              refine c_X12_reads (ix_rng ha ⟨hs, hl, h0, by clear ih hq; grind⟩) ?_
              rw [q2_qRow2 (by decide), q2_qRow]
              refine qJ_nm (qWP_mono _) [(10, _), (9, _), (7, _)] [(6, .int (p + 1)), (5, .int f), (4, .int t), (3, .int l), (2, .int s), (1, .int a), (0, .ref 65)] rfl rfl rfl ?_
              have hk : p < I 67 s.toNatClampNeg := by clear ih hq; grind
              have hpr : 0 ≤ p ∧ p < 24 := by clear ih hq; grind
              have hcc := lay_c (f := f) hpr hz h2
              have hc : ¬ (f < 0 ∨ I 94 t.toNatClampNeg - p ≤ f) := fun hc => by
                rcases hcc.mpr hc with hh | hh
                · exact absurd (lg_lt.mpr hh) (by assumption)
                · exact absurd (lg_lt.mp (by assumption)) hh
              have hr := fp_rng (f := f) (p := p) (z := I 94 t.toNatClampNeg) (fun h => hc (Or.inl h)) hpr hz (fun h => hc (Or.inr h))
              have g := tr_ix (i := f + p) ht hr.1
              have e9 : Int64.toInt32 (Int32.toInt64 f + Int32.toInt64 p) = f + p := by simp
              have e8 : t * 40 + (f + p) = t * 40 + f + p := by clear ih hq hr g hcc; grind
              have e : gLr (I 95) (I 94 t.toNatClampNeg) t f a s l p (kr, yr) = .inl (uI kr (tIx a s l p).toNatClampNeg (0 + 1), uI yr (tIx a s l p).toNatClampNeg ((1 : Int32) <<< (26 &&& 31))) := by
                unfold gLr
                rw [if_neg hc, ← e8, ← g.2.1, ← e9]
                unfold fLk fLm
                dsimp only
                clear ih hq hcc hc g hr e8
                generalize (I 95 (40 * t + (Int64.toInt32 (Int32.toInt64 f + Int32.toInt64 p))).toNatClampNeg) = b at *
                first
                | (rw [if_pos (by grind), if_pos (by grind)]; done)
                | (rw [if_pos (by grind), if_neg (by grind), if_pos (by grind)]; done)
                | (rw [if_neg (by grind), if_neg (by grind), if_neg (by grind)]; done)
                | (exfalso; grind)
              rw [upS_on hk e] at hq
              exact ih hk _ _ (by clear ih hq hr g; grind) (by clear ih hq hr g; grind) (Or.inr fun h => hc (Or.inl h)) hq
      · change Q (some (.int (-12))) (z, N, qRow (qRow I 70 kr) 71 yr, L, R)
        have hk : p < I 67 s.toNatClampNeg := by clear ih hq; grind
        have hpr : 0 ≤ p ∧ p < 24 := by clear ih hq; grind
        have hcc := lay_c (f := f) hpr hz h2
        have e : gLr (I 95) (I 94 t.toNatClampNeg) t f a s l p (kr, yr) = .inr (-12, (kr, yr)) := by
          unfold gLr
          refine if_pos (hcc.mp ?_)
          first | exact Or.inl (lg_lt.mp (by assumption)) | exact Or.inr (fun hh => absurd (lg_lt.mpr hh) (by assumption))
        rw [upS_out hk e] at hq
        exact hq
theorem c_X12_lay {d z : Nat} {N : Nat → Nat} {I : Nat → Nat → Int32} {L : Nat → Nat → Int64} {R : Nat → Nat → Option Nat} {Q : qP} {a : Int32} {s : Int32} {l : Int32} {t : Int32} {f : Int32} (hs : 0 ≤ I 65 0 ∧ I 65 0 ≤ 12) (hn : 0 ≤ I 65 1 ∧ I 65 1 ≤ 6) (hl : ∀ x : Int32, 0 ≤ x → x < I 65 0 → (1 ≤ I 66 x.toNatClampNeg ∧ I 66 x.toNatClampNeg ≤ 4) ∧ 1 ≤ I 67 x.toNatClampNeg ∧ I 67 x.toNatClampNeg ≤ 24) (hz : ∀ x : Int32, 0 ≤ x → x < 4 → -1 ≤ I 94 x.toNatClampNeg ∧ I 94 x.toNatClampNeg ≤ 40) (h0 : ¬ ((0 ≤ a ∧ a < I 65 1) ∧ ((0 ≤ s ∧ s < I 65 0) ∧ 0 ≤ l ∧ l < I 66 s.toNatClampNeg) ∧ 0 ≤ t ∧ t < 4) → Q (some (.int (-2))) (z, N, I, L, R)) (h1 : ((0 ≤ a ∧ a < I 65 1) ∧ ((0 ≤ s ∧ s < I 65 0) ∧ 0 ≤ l ∧ l < I 66 s.toNatClampNeg) ∧ 0 ≤ t ∧ t < 4) → I 94 t.toNatClampNeg < 0 → Q (some (.int (-11))) (z, N, I, L, R)) (h2 : ((0 ≤ a ∧ a < I 65 1) ∧ ((0 ≤ s ∧ s < I 65 0) ∧ 0 ≤ l ∧ l < I 66 s.toNatClampNeg) ∧ 0 ≤ t ∧ t < 4) → 0 ≤ I 94 t.toNatClampNeg → Q (some (.int (fLar (I 95) (I 94 t.toNatClampNeg) t f a s l (I 67 s.toNatClampNeg) (I 70, I 71)).1)) (z, N, qRow (qRow I 70 (fLar (I 95) (I 94 t.toNatClampNeg) t f a s l (I 67 s.toNatClampNeg) (I 70, I 71)).2.1) 71 (fLar (I 95) (I 94 t.toNatClampNeg) t f a s l (I 67 s.toNatClampNeg) (I 70, I 71)).2.2, L, R)) : qWP (d + 5) 244 [.ref 65, .int a, .int s, .int l, .int t, .int f] (z, N, I, L, R) Q := by
  refine qWP_of m_X12_lay rfl rfl [(0, .ref 65), (1, .int a), (2, .int s), (3, .int l), (4, .int t), (5, .int f)] rfl ?_
  refine qJ_run (qWP_mono _) [48] 400 ?_
  refine ⟨⟨Nat.le_refl _, Nat.le_refl _⟩, ?_⟩
  refine c_X12_isIn fun v1 hv1 => ?_
  refine ⟨fun (c1 : v1 = 0) => ?_, fun (c1 : ¬ v1 = 0) => ?_⟩
  · change Q (some (.int (-2))) (z, N, I, L, R)
    exact h0 (by clear h0 h1 h2; grind)
  · refine ⟨⟨Nat.le_refl _, Nat.le_refl _⟩, ?_⟩
    refine c_X12_isLine hs fun v2 hv2 => ?_
    refine ⟨fun (c2 : v2 = 0) => ?_, fun (c2 : ¬ v2 = 0) => ?_⟩
    · change Q (some (.int (-2))) (z, N, I, L, R)
      exact h0 (by clear h0 h1 h2; grind)
    · refine ⟨⟨Nat.le_refl _, Nat.le_refl _⟩, ?_⟩
      refine c_X12_isIn fun v3 hv3 => ?_
      refine ⟨fun (c3 : ¬ v3 = 0) => ?_, fun (c3 : v3 = 0) => ?_⟩
      · refine ⟨?_, ?_⟩
        · exact vb (x := t) (N := 4) 4 (by decide) (by clear h0 h1 h2; grind) (by clear h0 h1 h2; grind)
        refine ⟨fun (c4 : 0 ≤ (I 94 ((t).toNatClampNeg))) => ?_, fun (c4 : ¬ 0 ≤ (I 94 ((t).toNatClampNeg))) => ?_⟩
        · refine qJ_nm (qWP_mono _) [] [(6, .int 0), (5, .int f), (4, .int t), (3, .int l), (2, .int s), (1, .int a), (0, .ref 65)] rfl rfl rfl ?_
          have hg : ((0 ≤ a ∧ a < I 65 1) ∧ ((0 ≤ s ∧ s < I 65 0) ∧ 0 ≤ l ∧ l < I 66 s.toNatClampNeg) ∧ 0 ≤ t ∧ t < 4) := by clear h0 h1 h2; grind
          have hls := hl s hg.2.1.1.1 hg.2.1.1.2
          have hzt := hz t hg.2.2.1 hg.2.2.2
          refine qJ_M (M2 := (z, N, qRow (qRow I 70 (I 70)) 71 (I 71), L, R)) (by rw [qRow_self, qRow_self]) ?_
          exact l_X12_lay (d := d) ⟨hg.1.1, by clear h0 h1 h2; grind⟩ ⟨hg.2.1.1.1, by clear h0 h1 h2; grind⟩ ⟨hg.2.1.2.1, by clear h0 h1 h2; grind⟩ hg.2.2 hls.2 hzt 0 _ _ (by decide) (by clear h0 h1 h2; grind) (Or.inl rfl) (h2 hg (by clear h0 h1 h2; grind))
        · change Q (some (.int (-11))) (z, N, I, L, R)
          exact h1 (by clear h0 h1 h2; grind) (by clear h0 h1 h2; grind)
      · change Q (some (.int (-2))) (z, N, I, L, R)
        exact h0 (by clear h0 h1 h2; grind)
theorem op_lay {M : qM} (hI : qInv M) (a : Int32) (s : Int32) (l : Int32) (t : Int32) (f : Int32) : qOp 164 244 [.int a, .int s, .int l, .int t, .int f] M := by
  obtain ⟨z, N, I, L, R⟩ := M
  obtain ⟨hst, hSt, hHa, hTo, hTp, hEd, hDa, hPe, hTr, hTx, hMk, hKA⟩ := hI
  dsimp only at hst hSt hHa hTo hTp hEd hDa hPe hTr hTx hMk hKA
  have hs : 0 ≤ I 3 2 ∧ I 3 2 ≤ 12 := ⟨hSt.2.1, hSt.2.2.1⟩
  have hn : 0 ≤ I 6 2 ∧ I 6 2 ≤ 6 := ⟨hHa.2.1, hHa.2.2.1⟩
  have hl : ∀ x : Int32, 0 ≤ x → x < I 3 2 → I 4 x.toNatClampNeg ≤ 4 ∧ I 5 x.toNatClampNeg ≤ 24 := fun x a b => ⟨(hSt.2.2.2 x a b).2.2.1, (hSt.2.2.2 x a b).2.2.2.2.2⟩
  have hs2 : 0 ≤ I 65 0 ∧ I 65 0 ≤ 12 := by rw [hSt.1]; exact hs
  have hl2 : ∀ x : Int32, 0 ≤ x → x < I 65 0 → I 66 x.toNatClampNeg ≤ 4 ∧ I 67 x.toNatClampNeg ≤ 24 := fun x a b => by
    rw [hSt.1] at b
    rw [(hSt.2.2.2 x a b).1, (hSt.2.2.2 x a b).2.2.2.1]
    exact hl x a b
  have hz : ∀ x : Int32, 0 ≤ x → x < 4 → -1 ≤ I 64 x.toNatClampNeg ∧ I 64 x.toNatClampNeg ≤ 40 := fun x a b => (hTr.1 x a b).2
  have hzz : ∀ x : Int32, 0 ≤ x → x < 4 → I 94 x.toNatClampNeg = I 64 x.toNatClampNeg := fun x a b => (hTr.1 x a b).1
  have hz2 : ∀ x : Int32, 0 ≤ x → x < 4 → -1 ≤ I 94 x.toNatClampNeg ∧ I 94 x.toNatClampNeg ≤ 40 := fun x a b => by rw [(hTr.1 x a b).1]; exact hz x a b
  have hl3 : ∀ x : Int32, 0 ≤ x → x < I 3 2 → (1 ≤ I 4 x.toNatClampNeg ∧ I 4 x.toNatClampNeg ≤ 4) ∧ 1 ≤ I 5 x.toNatClampNeg ∧ I 5 x.toNatClampNeg ≤ 24 := fun x a b => ⟨⟨(hSt.2.2.2 x a b).2.1, (hSt.2.2.2 x a b).2.2.1⟩, (hSt.2.2.2 x a b).2.2.2.2.1, (hSt.2.2.2 x a b).2.2.2.2.2⟩
  have hl4 : ∀ x : Int32, 0 ≤ x → x < I 65 0 → (1 ≤ I 66 x.toNatClampNeg ∧ I 66 x.toNatClampNeg ≤ 4) ∧ 1 ≤ I 67 x.toNatClampNeg ∧ I 67 x.toNatClampNeg ≤ 24 := fun x a b => by
    rw [hSt.1] at b
    rw [(hSt.2.2.2 x a b).1, (hSt.2.2.2 x a b).2.2.2.1]
    exact hl3 x a b
  have hn2 : 0 ≤ I 65 1 ∧ I 65 1 ≤ 6 := by rw [hHa.1]; exact hn
  refine c_X11_lay hs hn hl3 hz hst (fun a0 => ?_) (fun a0 a1 => ?_) (fun a0 a1 => ?_)
  · refine ⟨_, rfl, ⟨rfl, rfl, hst⟩, ?_⟩
    refine c_X12_lay (by first | exact hs2 | (simp (decide := true) only [q2_ne, q2_r1, uI_at, uI_nj, qRow_ne, qRow_at]; exact hs2)) (by first | exact hn2 | (simp (decide := true) only [q2_ne, q2_r1, uI_at, uI_nj, qRow_ne, qRow_at]; exact hn2)) (by first | exact hl4 | (simp (decide := true) only [q2_ne, q2_r1, uI_at, uI_nj, qRow_ne, qRow_at]; exact hl4)) (by first | exact hz2 | (simp (decide := true) only [q2_ne, q2_r1, uI_at, uI_nj, qRow_ne, qRow_at]; exact hz2)) (fun b0 => ?_) (fun b0 b1 => ?_) (fun b0 b1 => ?_)
    · exact ⟨rfl, ⟨by first | rfl | (simp (decide := true) only [q2_ne, q2_r1, uI_at, uI_nj, qRow_ne, qRow_at]), rfl⟩, ⟨hst, (by first | exact hSt | (simp (decide := true) only [q2_ne, q2_r1, uI_at, uI_nj, qRow_ne, qRow_at]; exact hSt)), (by first | exact hHa | (simp (decide := true) only [q2_ne, q2_r1, uI_at, uI_nj, qRow_ne, qRow_at]; exact hHa)), (by first | exact hTo | (simp (decide := true) only [q2_ne, q2_r1, uI_at, uI_nj, qRow_ne, qRow_at]; exact hTo)), (by first | exact hTp | (simp (decide := true) only [q2_ne, q2_r1, uI_at, uI_nj, qRow_ne, qRow_at]; exact hTp)), (by first | exact hEd | (simp (decide := true) only [q2_ne, q2_r1, uI_at, uI_nj, qRow_ne, qRow_at]; exact hEd)), (by first | exact hDa | (simp (decide := true) only [q2_ne, q2_r1, uI_at, uI_nj, qRow_ne, qRow_at]; exact hDa)), (by first | exact hPe | (simp (decide := true) only [q2_ne, q2_r1, uI_at, uI_nj, qRow_ne, qRow_at]; exact hPe)), (by first | exact hTr | (simp (decide := true) only [q2_ne, q2_r1, uI_at, uI_nj, qRow_ne, qRow_at]; exact hTr)), (RTx_of hTx (by simp (decide := true) only [q2_ne, q2_r1, uI_at, uI_nj, qRow_ne, qRow_at]) (by simp (decide := true) only [q2_ne, q2_r1, uI_at, uI_nj, qRow_ne, qRow_at]) (by simp (decide := true) only [q2_ne, q2_r1, uI_at, uI_nj, qRow_ne, qRow_at]) (by simp (decide := true) only [q2_ne, q2_r1, uI_at, uI_nj, qRow_ne, qRow_at]) (by simp (decide := true) only [q2_ne, q2_r1, uI_at, uI_nj, qRow_ne, qRow_at]) (fun k hk => by (try dsimp only); repeat first | rfl | rw [q2_ne (by omega)] | rw [qRow_ne (by omega)]) (fun k hk => by (try dsimp only); repeat first | rfl | rw [q2_ne (by omega)] | rw [qRow_ne (by omega)])), (by first | exact hMk | (simp (decide := true) only [q2_ne, q2_r1, uI_at, uI_nj, qRow_ne, qRow_at]; exact hMk)), (by first | exact hKA | (simp (decide := true) only [q2_ne, q2_r1, uI_at, uI_nj, qRow_ne, qRow_at]; exact hKA))⟩⟩
    · exfalso; (try simp (decide := true) only [q2_ne, q2_r1, uI_at, uI_nj, qRow_ne, qRow_at] at *); (try simp only [place_eq hSt] at *); (try simp only [line_eq hSt] at *); (try rw [hSt.1] at *); (try rw [hHa.1] at *); clear hst hSt hHa hTo hTp hEd hDa hPe hTr hTx hMk hKA hl hl2; grind
    · exfalso; (try simp (decide := true) only [q2_ne, q2_r1, uI_at, uI_nj, qRow_ne, qRow_at] at *); (try simp only [place_eq hSt] at *); (try simp only [line_eq hSt] at *); (try rw [hSt.1] at *); (try rw [hHa.1] at *); clear hst hSt hHa hTo hTp hEd hDa hPe hTr hTx hMk hKA hl hl2; grind
  · have hzt := hzz t a0.2.2.1 a0.2.2.2
    refine ⟨_, rfl, ⟨rfl, rfl, hst⟩, ?_⟩
    refine c_X12_lay (by first | exact hs2 | (simp (decide := true) only [q2_ne, q2_r1, uI_at, uI_nj, qRow_ne, qRow_at]; exact hs2)) (by first | exact hn2 | (simp (decide := true) only [q2_ne, q2_r1, uI_at, uI_nj, qRow_ne, qRow_at]; exact hn2)) (by first | exact hl4 | (simp (decide := true) only [q2_ne, q2_r1, uI_at, uI_nj, qRow_ne, qRow_at]; exact hl4)) (by first | exact hz2 | (simp (decide := true) only [q2_ne, q2_r1, uI_at, uI_nj, qRow_ne, qRow_at]; exact hz2)) (fun b0 => ?_) (fun b0 b1 => ?_) (fun b0 b1 => ?_)
    · exfalso; (try simp (decide := true) only [q2_ne, q2_r1, uI_at, uI_nj, qRow_ne, qRow_at] at *); (try simp only [place_eq hSt] at *); (try simp only [line_eq hSt] at *); (try rw [hSt.1] at *); (try rw [hHa.1] at *); clear hst hSt hHa hTo hTp hEd hDa hPe hTr hTx hMk hKA hl hl2; grind
    · exact ⟨rfl, ⟨by first | rfl | (simp (decide := true) only [q2_ne, q2_r1, uI_at, uI_nj, qRow_ne, qRow_at]), rfl⟩, ⟨hst, (by first | exact hSt | (simp (decide := true) only [q2_ne, q2_r1, uI_at, uI_nj, qRow_ne, qRow_at]; exact hSt)), (by first | exact hHa | (simp (decide := true) only [q2_ne, q2_r1, uI_at, uI_nj, qRow_ne, qRow_at]; exact hHa)), (by first | exact hTo | (simp (decide := true) only [q2_ne, q2_r1, uI_at, uI_nj, qRow_ne, qRow_at]; exact hTo)), (by first | exact hTp | (simp (decide := true) only [q2_ne, q2_r1, uI_at, uI_nj, qRow_ne, qRow_at]; exact hTp)), (by first | exact hEd | (simp (decide := true) only [q2_ne, q2_r1, uI_at, uI_nj, qRow_ne, qRow_at]; exact hEd)), (by first | exact hDa | (simp (decide := true) only [q2_ne, q2_r1, uI_at, uI_nj, qRow_ne, qRow_at]; exact hDa)), (by first | exact hPe | (simp (decide := true) only [q2_ne, q2_r1, uI_at, uI_nj, qRow_ne, qRow_at]; exact hPe)), (by first | exact hTr | (simp (decide := true) only [q2_ne, q2_r1, uI_at, uI_nj, qRow_ne, qRow_at]; exact hTr)), (RTx_of hTx (by simp (decide := true) only [q2_ne, q2_r1, uI_at, uI_nj, qRow_ne, qRow_at]) (by simp (decide := true) only [q2_ne, q2_r1, uI_at, uI_nj, qRow_ne, qRow_at]) (by simp (decide := true) only [q2_ne, q2_r1, uI_at, uI_nj, qRow_ne, qRow_at]) (by simp (decide := true) only [q2_ne, q2_r1, uI_at, uI_nj, qRow_ne, qRow_at]) (by simp (decide := true) only [q2_ne, q2_r1, uI_at, uI_nj, qRow_ne, qRow_at]) (fun k hk => by (try dsimp only); repeat first | rfl | rw [q2_ne (by omega)] | rw [qRow_ne (by omega)]) (fun k hk => by (try dsimp only); repeat first | rfl | rw [q2_ne (by omega)] | rw [qRow_ne (by omega)])), (by first | exact hMk | (simp (decide := true) only [q2_ne, q2_r1, uI_at, uI_nj, qRow_ne, qRow_at]; exact hMk)), (by first | exact hKA | (simp (decide := true) only [q2_ne, q2_r1, uI_at, uI_nj, qRow_ne, qRow_at]; exact hKA))⟩⟩
    · exfalso; (try simp (decide := true) only [q2_ne, q2_r1, uI_at, uI_nj, qRow_ne, qRow_at] at *); (try simp only [place_eq hSt] at *); (try simp only [line_eq hSt] at *); (try rw [hSt.1] at *); (try rw [hHa.1] at *); clear hst hSt hHa hTo hTp hEd hDa hPe hTr hTx hMk hKA hl hl2; grind
  · have hzt := hzz t a0.2.2.1 a0.2.2.2
    refine ⟨_, rfl, ⟨by simp (decide := true) only [q2_ne, q2_r1, uI_at, uI_nj, qRow_ne, qRow_at], rfl, hst⟩, ?_⟩
    refine c_X12_lay (by first | exact hs2 | (simp (decide := true) only [q2_ne, q2_r1, uI_at, uI_nj, qRow_ne, qRow_at]; exact hs2)) (by first | exact hn2 | (simp (decide := true) only [q2_ne, q2_r1, uI_at, uI_nj, qRow_ne, qRow_at]; exact hn2)) (by first | exact hl4 | (simp (decide := true) only [q2_ne, q2_r1, uI_at, uI_nj, qRow_ne, qRow_at]; exact hl4)) (by first | exact hz2 | (simp (decide := true) only [q2_ne, q2_r1, uI_at, uI_nj, qRow_ne, qRow_at]; exact hz2)) (fun b0 => ?_) (fun b0 b1 => ?_) (fun b0 b1 => ?_)
    · exfalso; (try simp (decide := true) only [q2_ne, q2_r1, uI_at, uI_nj, qRow_ne, qRow_at] at *); (try simp only [place_eq hSt] at *); (try simp only [line_eq hSt] at *); (try rw [hSt.1] at *); (try rw [hHa.1] at *); clear hst hSt hHa hTo hTp hEd hDa hPe hTr hTx hMk hKA hl hl2; grind
    · exfalso; (try simp (decide := true) only [q2_ne, q2_r1, uI_at, uI_nj, qRow_ne, qRow_at] at *); (try simp only [place_eq hSt] at *); (try simp only [line_eq hSt] at *); (try rw [hSt.1] at *); (try rw [hHa.1] at *); clear hst hSt hHa hTo hTp hEd hDa hPe hTr hTx hMk hKA hl hl2; grind
    · have hrel := lay_rel (by_ := I 63) (by' := I 95) (f := f) (a := a) (s := s) (l := l) (n := I 5 s.toNatClampNeg) a0.2.2 (hz t a0.2.2.1 a0.2.2.2) ⟨by have := hl3 s a0.2.1.1.1 a0.2.1.1.2; clear hst hSt hHa hTo hTp hEd hDa hPe hTr hTx hMk hKA hl hl2 hl3 hl4 b0 b1; grind, (hl3 s a0.2.1.1.1 a0.2.1.1.2).2.2⟩ (fun j hj => (hTr.2 j hj).1) hTo
      exact ⟨by simp (decide := true) only [q2_ne, q2_r1, uI_at, uI_nj, qRow_ne, qRow_at]; rw [hzz t a0.2.2.1 a0.2.2.2, (hSt.2.2.2 s a0.2.1.1.1 a0.2.1.1.2).2.2.2.1, hrel.1], ⟨by first | rfl | (simp (decide := true) only [q2_ne, q2_r1, uI_at, uI_nj, qRow_ne, qRow_at]), rfl⟩, ⟨hst, (by first | exact hSt | (simp (decide := true) only [q2_ne, q2_r1, uI_at, uI_nj, qRow_ne, qRow_at]; exact hSt)), (by first | exact hHa | (simp (decide := true) only [q2_ne, q2_r1, uI_at, uI_nj, qRow_ne, qRow_at]; exact hHa)), (by simp (decide := true) only [q2_ne, q2_r1, uI_at, uI_nj, qRow_ne, qRow_at]; rw [hzz t a0.2.2.1 a0.2.2.2, (hSt.2.2.2 s a0.2.1.1.1 a0.2.1.1.2).2.2.2.1]; exact hrel.2), (by first | exact hTp | (simp (decide := true) only [q2_ne, q2_r1, uI_at, uI_nj, qRow_ne, qRow_at]; exact hTp)), (by first | exact hEd | (simp (decide := true) only [q2_ne, q2_r1, uI_at, uI_nj, qRow_ne, qRow_at]; exact hEd)), (by first | exact hDa | (simp (decide := true) only [q2_ne, q2_r1, uI_at, uI_nj, qRow_ne, qRow_at]; exact hDa)), (by first | exact hPe | (simp (decide := true) only [q2_ne, q2_r1, uI_at, uI_nj, qRow_ne, qRow_at]; exact hPe)), (by first | exact hTr | (simp (decide := true) only [q2_ne, q2_r1, uI_at, uI_nj, qRow_ne, qRow_at]; exact hTr)), (RTx_of hTx (by simp (decide := true) only [q2_ne, q2_r1, uI_at, uI_nj, qRow_ne, qRow_at]) (by simp (decide := true) only [q2_ne, q2_r1, uI_at, uI_nj, qRow_ne, qRow_at]) (by simp (decide := true) only [q2_ne, q2_r1, uI_at, uI_nj, qRow_ne, qRow_at]) (by simp (decide := true) only [q2_ne, q2_r1, uI_at, uI_nj, qRow_ne, qRow_at]) (by simp (decide := true) only [q2_ne, q2_r1, uI_at, uI_nj, qRow_ne, qRow_at]) (fun k hk => by (try dsimp only); repeat first | rfl | rw [q2_ne (by omega)] | rw [qRow_ne (by omega)]) (fun k hk => by (try dsimp only); repeat first | rfl | rw [q2_ne (by omega)] | rw [qRow_ne (by omega)])), (by first | exact hMk | (simp (decide := true) only [q2_ne, q2_r1, uI_at, uI_nj, qRow_ne, qRow_at]; exact hMk)), (by first | exact hKA | (simp (decide := true) only [q2_ne, q2_r1, uI_at, uI_nj, qRow_ne, qRow_at]; exact hKA))⟩⟩

