theorem upF_rel {σ τ : Type} {n : Int32} {g : Int32 → σ → σ} {g' : Int32 → τ → τ} (P : Int32 → σ → τ → Prop) (hg : ∀ k x y, 0 ≤ k → k < n → P k x y → P (k + 1) (g k x) (g' k y)) (k : Int32) : ∀ x y, 0 ≤ k → k ≤ n → P k x y → P n (upF n g k x) (upF n g' k y) := by
  refine up_ind n (P := fun k => ∀ x y, 0 ≤ k → k ≤ n → P k x y → P n (upF n g k x) (upF n g' k y)) (fun k ih x y h0 h1 h => ?_) k
  by_cases hk : k < n
  · rw [upF_on hk, upF_on hk]
    exact ih hk _ _ (by grind) (by grind) (hg k x y h0 hk h)
  · have : k = n := by grind
    subst this
    rw [upF_ge hk, upF_ge hk]
    exact h
theorem upF_inv {σ : Type} {n : Int32} {g : Int32 → σ → σ} (P : Int32 → σ → Prop) (hg : ∀ k x, 0 ≤ k → k < n → P k x → P (k + 1) (g k x)) (k : Int32) (x : σ) (h0 : 0 ≤ k) (h1 : k ≤ n) (h : P k x) : P n (upF n g k x) :=
  upF_rel (g' := g) (fun k x _ => P k x) (fun k x _ h0 h1 h => hg k x h0 h1 h) k x x h0 h1 h
theorem nI_mul (a b : Nat) : nI a * nI b = nI (a * b) := (Int32.ofNat_mul a b).symm
/-- where a reading lies -/
def tIx (a s l p : Int32) : Int32 := ((a * 12 + s) * 4 + l) * 24 + p
def tAt (t : Nat → Int32) (a s l p : Int32) : Int32 := if 0 ≤ tIx a s l p ∧ tIx a s l p < 6912 then t (tIx a s l p).toNatClampNeg else 0
theorem nI_ofL {x : Int32} {n : Nat} (hn : n ≤ 1000000000) (h0 : 0 ≤ x) (h1 : x < nI n) : ∃ j : Nat, j < n ∧ x = nI j := by
  obtain ⟨j, hj, rfl⟩ := nI_of (x := x) (by grind)
  exact ⟨j, (nI_ltI hj (by omega)).mp h1, rfl⟩
def inP (s l p : Int32) : Prop := (0 ≤ s ∧ s < 12) ∧ (0 ≤ l ∧ l < 4) ∧ 0 ≤ p ∧ p < 24
theorem ix_rng {a s l p : Int32} (ha : 0 ≤ a ∧ a < 6) (h : inP s l p) : 0 ≤ tIx a s l p ∧ tIx a s l p < 6912 := by
  obtain ⟨h1, h2, h3⟩ := h
  obtain ⟨a, ha, rfl⟩ := nI_ofL (n := 6) (by decide) ha.1 ha.2
  obtain ⟨s, hs, rfl⟩ := nI_ofL (n := 12) (by decide) h1.1 h1.2
  obtain ⟨l, hl, rfl⟩ := nI_ofL (n := 4) (by decide) h2.1 h2.2
  obtain ⟨p, hp, rfl⟩ := nI_ofL (n := 24) (by decide) h3.1 h3.2
  have e : tIx (nI a) (nI s) (nI l) (nI p) = nI (((a * 12 + s) * 4 + l) * 24 + p) := by
    unfold tIx
    rw [show (12 : Int32) = nI 12 from rfl, show (4 : Int32) = nI 4 from rfl, show (24 : Int32) = nI 24 from rfl, nI_mul, nI_add, nI_mul, nI_add, nI_mul, nI_add]
  rw [e]
  refine ⟨nI_pos' (by omega), ?_⟩
  show _ < nI 6912
  exact (nI_ltI (by omega) (by decide)).mpr (by omega)
theorem ix_lt {a s l p : Int32} (ha : 0 ≤ a ∧ a < 6) (h : inP s l p) : (tIx a s l p).toNatClampNeg < 6912 := by
  have h2 := ix_rng ha h
  rw [tcn]
  have h3 := Int32.lt_iff_toInt_lt.mp h2.2
  have h4 : (6912 : Int32).toInt = 6912 := rfl
  omega
theorem ix_at {t : Nat → Int32} {a s l p : Int32} (ha : 0 ≤ a ∧ a < 6) (h : inP s l p) : tAt t a s l p = t (tIx a s l p).toNatClampNeg := if_pos (ix_rng ha h)
/-! kinds and mays out of one number -/
def fKd (x : Int32) : Int32 := if x = 0 then 3 else (x >>> (27 &&& 31)) - 1
def fMy (x : Int32) : Int32 := if x = 0 then 134217727 else x &&& 134217727
theorem tN {x : Int32} (h : 0 ≤ x) : x.toInt = (x.toBitVec.toNat : Int) := by
  have h1 := i0 h
  have h2 : x.toInt = x.toBitVec.toInt := rfl
  rw [h2] at h1 ⊢
  rw [BitVec.toInt_eq_toNat_cond] at h1 ⊢
  split at h1
  · rename_i h3; rw [if_pos h3]
  · rename_i h3
    have := x.toBitVec.isLt
    omega
theorem and_lo {x : Int32} (h : 0 ≤ x) : (x &&& 134217727).toInt = x.toInt % 134217728 := by
  have h1 := tN h
  have h2 : (x &&& 134217727).toBitVec.toNat = x.toBitVec.toNat % 134217728 := by
    have : (x &&& 134217727).toBitVec = x.toBitVec &&& 134217727#32 := rfl
    rw [this, BitVec.toNat_and]
    exact Nat.and_two_pow_sub_one_eq_mod _ 27
  have h3 : x.toBitVec.toNat < 2147483648 := by
    have := Int32.toInt_lt x
    omega
  have h4 : (x &&& 134217727).toInt = ((x &&& 134217727).toBitVec.toNat : Int) := by
    have : (x &&& 134217727).toInt = (x &&& 134217727).toBitVec.toInt := rfl
    rw [this, BitVec.toInt_eq_toNat_cond, if_pos (by rw [h2]; omega)]
  rw [h4, h2, h1]
  omega
theorem shr27 {x : Int32} (h : 0 ≤ x) : (x >>> (27 &&& 31)).toInt = x.toInt / 134217728 := by
  have h2 : (x >>> (27 &&& 31)).toBitVec = x.toBitVec.sshiftRight 27 := by
    have : (x >>> (27 &&& 31)).toBitVec = x.toBitVec.sshiftRight' ((27 &&& 31 : Int32).toBitVec.smod 32) := rfl
    rw [this, show ((27 &&& 31 : Int32).toBitVec.smod 32) = 27#32 from by decide]
    rfl
  have h3 : (x >>> (27 &&& 31)).toInt = (x >>> (27 &&& 31)).toBitVec.toInt := rfl
  rw [h3, h2, BitVec.toInt_sshiftRight, Int.shiftRight_eq_div_pow]
  rfl
theorem rd1_un {t k y : Int32} (h : rd1 t k y) : (t = 0 ↔ k = 0) ∧ 0 ≤ k ∧ (¬ t = 0 → fKd t = k - 1 ∧ fMy t = y) := by
  rcases h with h | ⟨h1, h2, h3, h4, h5, _⟩
  · exact ⟨by simp [h.1, h.2], by rw [h.2]; decide, fun hn => absurd h.1 hn⟩
  · obtain ⟨k, hk, rfl⟩ := nI_ofL (x := k) (n := 7) (by decide) (by grind) (by show k < 7; grind)
    obtain ⟨y, hy, rfl⟩ := nI_ofL (x := y) (n := 134217728) (by decide) h3 (by show y < 134217728; grind)
    have hk1 : 1 ≤ k := by
      have := (nI_leI (a := 1) (by decide) (by omega)).mp h1
      exact this
    have e : t = nI (k * 134217728 + y) := by rw [h5, show (134217728 : Int32) = nI 134217728 from rfl, nI_mul, nI_add]
    have hb : k * 134217728 + y < 2 ^ 31 := by omega
    have hz : ¬ t = 0 := by rw [e, show (0 : Int32) = nI 0 from rfl, nI_eq hb (by decide)]; omega
    have hp : 0 ≤ t := by rw [e]; exact nI_pos' hb
    have hi : t.toInt = ((k * 134217728 + y : Nat) : Int) := by rw [e]; exact nI_toInt hb
    refine ⟨⟨fun h => absurd h hz, fun h => ?_⟩, nI_pos' (by omega), fun _ => ⟨?_, ?_⟩⟩
    · rw [show (0 : Int32) = nI 0 from rfl, nI_eq (by omega) (by decide)] at h; omega
    · unfold fKd
      rw [if_neg hz]
      have : t >>> (27 &&& 31) = nI k := by
        apply Int32.toInt_inj.mp
        rw [shr27 hp, hi, nI_toInt (by omega)]
        omega
      rw [this]
    · unfold fMy
      rw [if_neg hz]
      apply Int32.toInt_inj.mp
      rw [and_lo hp, hi, nI_toInt (by omega)]
      omega
/-! who leads -/
def gLd (t rk : Nat → Int32) (s l p k : Int32) (b : Int32 × Int32) : Int32 × Int32 := if b.2 < rk k.toNatClampNeg ∧ ¬ tAt t k s l p = 0 then (k, rk k.toNatClampNeg) else b
def fLd (t rk : Nat → Int32) (n s l p : Int32) : Int32 := (upF n (gLd t rk s l p) 0 (-1, -1)).1
def tLd (t rk : Nat → Int32) (n s l p : Int32) : Int32 := if fLd t rk n s l p = -1 then 0 else tAt t (fLd t rk n s l p) s l p
def gHo (kd rk : Nat → Int32) (s l p k b : Int32) : Int32 := if 0 < kd (tIx k s l p).toNatClampNeg ∧ (b < 0 ∨ rk b.toNatClampNeg < rk k.toNatClampNeg) then k else b
theorem ho_ld {n n' s l p : Int32} {rk rk' t kd y : Nat → Int32} (hH : RHa n n' rk rk') (hT : RTo t kd y) (h : inP s l p) : upF n' (gHo kd rk' s l p) 0 (-1) = fLd t rk n s l p := by
  obtain ⟨e, h0, h6, h1⟩ := hH
  subst e
  have hr := upF_rel (n := n') (g := gHo kd rk' s l p) (g' := gLd t rk s l p) (fun k b c => b = c.1 ∧ ((c.1 = -1 ∧ c.2 = -1) ∨ (0 ≤ c.1 ∧ c.1 < n' ∧ c.2 = rk c.1.toNatClampNeg))) (fun k b c hk0 hk hb => ?_) 0 (-1) (-1, -1) (by decide) h0 ⟨rfl, Or.inl ⟨rfl, rfl⟩⟩
  · exact hr.1
  · obtain ⟨rfl, hb⟩ := hb
    have ha : 0 ≤ k ∧ k < 6 := by grind
    obtain ⟨hx, hx0, _⟩ := rd1_un (hT _ (ix_lt ha h))
    unfold gHo gLd
    rw [ix_at ha h]
    have h2 := h1 k hk0 hk
    rw [h2.1]
    rcases hb with hb | hb
    · rw [hb.1, hb.2]
      by_cases hz : t (tIx k s l p).toNatClampNeg = 0
      · have : ¬ 0 < kd (tIx k s l p).toNatClampNeg := by grind
        simp only [hz, this, not_true, and_false, false_and, if_false]
        exact ⟨hb.1.symm, Or.inl hb⟩
      · have h5 : 0 < kd (tIx k s l p).toNatClampNeg := by grind
        have h6 : (-1 : Int32) < rk k.toNatClampNeg := by grind
        have h7 : (-1 : Int32) < 0 := by decide
        simp only [hz, h5, h6, h7, true_or, and_self, not_false_eq_true, if_true]
        exact ⟨trivial, Or.inr ⟨hk0, hk, trivial⟩⟩
    · have h3 := h1 c.1 hb.1 hb.2.1
      rw [h3.1, hb.2.2]
      have h7 : ¬ c.1 < 0 := by grind
      by_cases hz : 0 < kd (tIx k s l p).toNatClampNeg ∧ rk c.1.toNatClampNeg < rk k.toNatClampNeg
      · rw [if_pos ⟨hz.1, Or.inr hz.2⟩, if_pos ⟨hz.2, by grind⟩]
        exact ⟨rfl, Or.inr ⟨hk0, hk, rfl⟩⟩
      · rw [if_neg (by grind), if_neg (by grind)]
        exact ⟨rfl, Or.inr hb⟩
theorem ld_some {n s l p : Int32} {rk t : Nat → Int32} (h0 : 0 ≤ n) (hn : n ≤ 6) (hr : ∀ x : Int32, 0 ≤ x → x < n → 0 ≤ rk x.toNatClampNeg) : (fLd t rk n s l p = -1 ∧ ∀ x : Int32, 0 ≤ x → x < n → tAt t x s l p = 0) ∨ (0 ≤ fLd t rk n s l p ∧ fLd t rk n s l p < n ∧ ¬ tAt t (fLd t rk n s l p) s l p = 0) := by
  have h := upF_inv (n := n) (g := gLd t rk s l p) (fun k c => (c.1 = -1 ∧ c.2 = -1 ∧ ∀ x : Int32, 0 ≤ x → x < k → tAt t x s l p = 0) ∨ (0 ≤ c.1 ∧ c.1 < n ∧ ¬ tAt t c.1 s l p = 0)) (fun k c hk0 hk hc => ?_) 0 (-1, -1) (by decide) h0 (Or.inl ⟨rfl, rfl, fun x h1 h2 => by grind⟩)
  · rcases h with h | h
    · exact Or.inl ⟨h.1, h.2.2⟩
    · exact Or.inr h
  · unfold gLd
    split
    · rename_i h1; exact Or.inr ⟨hk0, hk, h1.2⟩
    · rename_i h1
      rcases hc with hc | hc
      · refine Or.inl ⟨hc.1, hc.2.1, fun x h2 h3 => ?_⟩
        by_cases e : x = k
        · subst e
          have := hr x hk0 hk
          rw [hc.2.1] at h1
          have h4 : (-1 : Int32) < rk x.toNatClampNeg := by grind
          by_cases h5 : tAt t x s l p = 0
          · exact h5
          · exact absurd ⟨h4, h5⟩ h1
        · exact hc.2.2 x h2 (by grind)
      · exact Or.inr hc
def gDs (t : Nat → Int32) (d s l p k b : Int32) : Int32 := if ¬ tAt t k s l p = 0 ∧ ¬ tAt t k s l p = d then b + 1 else b
def fDs (t : Nat → Int32) (n d s l p : Int32) : Int32 := upF n (gDs t d s l p) 0 0
def gDr (kd my : Nat → Int32) (c y s l p k b : Int32) : Int32 := if 0 < kd (tIx k s l p).toNatClampNeg ∧ (¬ kd (tIx k s l p).toNatClampNeg - 1 = c ∨ ¬ my (tIx k s l p).toNatClampNeg = y) then b + 1 else b
theorem rd1_inj {t k y t' k' y' : Int32} (h : rd1 t k y) (h' : rd1 t' k' y') (hz : ¬ t = 0) (hz' : ¬ t' = 0) : t = t' ↔ (k - 1 = k' - 1 ∧ y = y') := by
  constructor
  · intro e
    subst e
    obtain ⟨_, _, g⟩ := rd1_un h
    obtain ⟨_, _, g'⟩ := rd1_un h'
    exact ⟨(g hz).1.symm.trans (g' hz).1, (g hz).2.symm.trans (g' hz).2⟩
  · intro ⟨e1, e2⟩
    have e3 : k = k' := by grind
    subst e3 e2
    rcases h with h | h
    · exact absurd h.1 hz
    · rcases h' with h' | h'
      · exact absurd h'.1 hz'
      · rw [h.2.2.2.2.1, h'.2.2.2.2.1]
theorem ds_dr {n s l p : Int32} {rk t kd my : Nat → Int32} (h0 : 0 ≤ n) (hn : n ≤ 6) (hr : ∀ x : Int32, 0 ≤ x → x < n → 0 ≤ rk x.toNatClampNeg) (hT : RTo t kd my) (h : inP s l p) : upF n (gDr kd my (fKd (tLd t rk n s l p)) (fMy (tLd t rk n s l p)) s l p) 0 0 = fDs t n (tLd t rk n s l p) s l p := by
  refine (upF_rel (n := n) (g := gDr kd my (fKd (tLd t rk n s l p)) (fMy (tLd t rk n s l p)) s l p) (g' := gDs t (tLd t rk n s l p) s l p) (fun k b c => b = c) (fun k b c hk0 hk hb => ?_) 0 0 0 (by decide) h0 rfl)
  subst hb
  have ha : 0 ≤ k ∧ k < 6 := by grind
  have hx1 := hT _ (ix_lt ha h)
  obtain ⟨hx, hx0, _⟩ := rd1_un hx1
  unfold gDr gDs
  rcases ld_some (t := t) (s := s) (l := l) (p := p) h0 hn hr with h2 | h2
  · have h3 := h2.2 k hk0 hk
    have h4 : kd (tIx k s l p).toNatClampNeg = 0 := by rw [ix_at ha h] at h3; exact hx.mp h3
    rw [h3, h4, if_neg (fun h => absurd h.1 (by decide)), if_neg (by simp)]
  · have hb : 0 ≤ fLd t rk n s l p ∧ fLd t rk n s l p < 6 := by grind
    have e : tLd t rk n s l p = tAt t (fLd t rk n s l p) s l p := if_neg (by grind)
    have hy1 := hT _ (ix_lt hb h)
    rw [e, ix_at ha h, ix_at hb h]
    have h5 := h2.2.2
    rw [ix_at hb h] at h5
    obtain ⟨_, _, hu⟩ := rd1_un hy1
    rw [(hu h5).1, (hu h5).2]
    by_cases hz : t (tIx k s l p).toNatClampNeg = 0
    · have h4 := hx.mp hz
      rw [hz, h4, if_neg (fun h => absurd h.1 (by decide)), if_neg (by simp)]
    · have h6 : 0 < kd (tIx k s l p).toNatClampNeg := by grind
      have h7 := rd1_inj hx1 hy1 hz h5
      by_cases h8 : t (tIx k s l p).toNatClampNeg = t (tIx (fLd t rk n s l p) s l p).toNatClampNeg
      · have h9 := h7.mp h8
        rw [if_neg (by rw [h9.1, h9.2]; simp), if_neg (by rw [h8]; simp)]
      · have h10 : ¬ kd (tIx k s l p).toNatClampNeg - 1 = kd (tIx (fLd t rk n s l p) s l p).toNatClampNeg - 1 ∨ ¬ my (tIx k s l p).toNatClampNeg = my (tIx (fLd t rk n s l p) s l p).toNatClampNeg := by
          rcases Classical.em (kd (tIx k s l p).toNatClampNeg - 1 = kd (tIx (fLd t rk n s l p) s l p).toNatClampNeg - 1) with h9 | h9
          · exact Or.inr fun h10 => h8 (h7.mpr ⟨h9, h10⟩)
          · exact Or.inl h9
        rw [if_pos ⟨h6, h10⟩, if_pos ⟨hz, h8⟩]
