/-! formulas, without the machine: texts as numbers of 24 digits below 32 -/
def ofD : Nat → (Nat → Nat) → Nat
  | 0, _ => 0
  | n + 1, f => ofD n f * 32 + f n
def dg (K k : Nat) : Nat := K / 32 ^ (23 - k) % 32
theorem ofD_lt {f : Nat → Nat} (hf : ∀ k, f k < 32) : ∀ n, ofD n f < 32 ^ n := by
  intro n
  induction n with
  | zero => simp [ofD]
  | succ n ih =>
    have := hf n
    rw [ofD, Nat.pow_succ]
    omega
theorem ofD_congr {f g : Nat → Nat} : ∀ n, (∀ k, k < n → f k = g k) → ofD n f = ofD n g := by
  intro n
  induction n with
  | zero => intro _; rfl
  | succ n ih =>
    intro h
    rw [ofD, ofD, ih fun k hk => h k (by omega), h n (by omega)]
theorem ofD_div {f : Nat → Nat} (hf : ∀ k, f k < 32) : ∀ m n, ofD (n + m) f / 32 ^ m = ofD n f := by
  intro m
  induction m with
  | zero => intro n; simp
  | succ m ih =>
    intro n
    rw [← Nat.add_assoc, ofD, Nat.pow_succ, Nat.mul_comm (32 ^ m), ← Nat.div_div_eq_div_mul, show (ofD (n + m) f * 32 + f (n + m)) / 32 = ofD (n + m) f from by have := hf (n + m); omega, ih n]
theorem dg_ofD {f : Nat → Nat} (hf : ∀ k, f k < 32) {k : Nat} (hk : k < 24) : dg (ofD 24 f) k = f k := by
  have h := ofD_div hf (23 - k) (k + 1)
  rw [show k + 1 + (23 - k) = 24 by omega] at h
  unfold dg
  rw [h, ofD]
  have := hf k
  omega
theorem ofD_dg {K : Nat} (hK : K < 32 ^ 24) : ∀ n, n ≤ 24 → ofD n (dg K) = K / 32 ^ (24 - n) := by
  intro n
  induction n with
  | zero => intro _; rw [ofD]; exact (Nat.div_eq_of_lt hK).symm
  | succ n ih =>
    intro hn
    rw [ofD, ih (by omega)]
    unfold dg
    rw [show 24 - n = (23 - n) + 1 by omega, show 24 - (n + 1) = 23 - n by omega, Nat.pow_succ, ← Nat.div_div_eq_div_mul]
    omega
theorem dg_lt {K k : Nat} : dg K k < 32 := Nat.mod_lt _ (by decide)
theorem dg_ext {K K' : Nat} (hK : K < 32 ^ 24) (hK' : K' < 32 ^ 24) (h : ∀ k, k < 24 → dg K k = dg K' k) : K = K' := by
  have h1 := ofD_dg hK 24 (by omega)
  have h2 := ofD_dg hK' 24 (by omega)
  rw [ofD_congr 24 h] at h1
  simp at h1 h2
  exact h1.symm.trans h2
theorem ofD_lex {f g : Nat → Nat} (hf : ∀ k, f k < 32) (hg : ∀ k, g k < 32) : ∀ n, ofD n f < ofD n g ↔ ∃ k, k < n ∧ (∀ j, j < k → f j = g j) ∧ f k < g k := by
  intro n
  induction n with
  | zero => simp [ofD]
  | succ n ih =>
    have a := hf n
    have b := hg n
    have he : ofD n f = ofD n g ↔ ∀ j, j < n → f j = g j := by
      constructor
      · intro h j hj
        have e1 := ofD_div hf (n - (j + 1)) (j + 1)
        have e2 := ofD_div hg (n - (j + 1)) (j + 1)
        rw [show j + 1 + (n - (j + 1)) = n by omega] at e1 e2
        rw [h, e2, ofD, ofD] at e1
        have := hf j
        have := hg j
        omega
      · exact ofD_congr n
    rw [ofD, ofD]
    constructor
    · intro h
      by_cases h1 : ofD n f < ofD n g
      · obtain ⟨k, hk, h2⟩ := ih.mp h1
        exact ⟨k, by omega, h2⟩
      · exact ⟨n, by omega, he.mp (by omega), by omega⟩
    · rintro ⟨k, hk, h1, h2⟩
      by_cases h3 : k = n
      · subst h3
        rw [he.mpr h1]
        omega
      · have := ih.mpr ⟨k, by omega, h1, h2⟩
        omega
theorem dg_lex {K K' : Nat} (hK : K < 32 ^ 24) (hK' : K' < 32 ^ 24) : K < K' ↔ ∃ k, k < 24 ∧ (∀ j, j < k → dg K j = dg K' j) ∧ dg K k < dg K' k := by
  have h1 := ofD_dg hK 24 (by omega)
  have h2 := ofD_dg hK' 24 (by omega)
  simp at h1 h2
  rw [← ofD_lex (fun _ => dg_lt) (fun _ => dg_lt), h1, h2]
/-- a text of n letters: digits 1 .. 27, then none -/
def vK (K n : Nat) : Prop := n ≤ 24 ∧ K < 32 ^ 24 ∧ ∀ k, k < 24 → (k < n → 1 ≤ dg K k ∧ dg K k ≤ 27) ∧ (n ≤ k → dg K k = 0)
theorem vK_n {K n m : Nat} (h : vK K n) (h' : vK K m) : n = m := by
  obtain ⟨a1, a2, a3⟩ := h
  obtain ⟨b1, b2, b3⟩ := h'
  refine Decidable.byContradiction fun h9 => ?_
  by_cases h8 : n < m
  · have := (a3 n (by omega)).2 (by omega)
    have := (b3 n (by omega)).1 (by omega)
    omega
  · have := (b3 m (by omega)).2 (by omega)
    have := (a3 m (by omega)).1 (by omega)
    omega
theorem dg_0 {k : Nat} : dg 0 k = 0 := by simp [dg]
theorem vK_0 : vK 0 0 := ⟨by decide, by decide, fun k hk => ⟨fun h => by omega, fun _ => dg_0⟩⟩
theorem vK_z {K : Nat} (h : vK K 0) : K = 0 := dg_ext h.2.1 (by decide) fun k hk => by rw [dg_0, (h.2.2 k hk).2 (by omega)]
/-- one text behind another, a blank between -/
def catD (K1 n1 K2 k : Nat) : Nat := if k < n1 then dg K1 k else if k = n1 then 1 else if k < 24 then dg K2 (k - n1 - 1) else 0
def catN (n1 n2 : Nat) : Nat := if n1 = 0 then n2 else if n2 = 0 then n1 else n1 + 1 + n2
theorem catD_lt {K1 n1 K2 k : Nat} : catD K1 n1 K2 k < 32 := by
  unfold catD
  split
  · exact dg_lt
  · split
    · decide
    · split
      · exact dg_lt
      · decide
def lenK (K : Nat) : Nat := (List.range 24).countP fun k => dg K k != 0
theorem cnt_pre (p : Nat → Bool) (n : Nat) : ∀ m, (∀ k, k < m → (p k = true ↔ k < n)) → (List.range m).countP p = min n m := by
  intro m
  induction m with
  | zero => intro _; simp
  | succ m ih =>
    intro h
    rw [List.range_succ, List.countP_append, ih fun k hk => h k (by omega)]
    have := h m (by omega)
    by_cases hm : m < n
    · simp [this.mpr hm]; omega
    · have : ¬ p m = true := fun h9 => hm (this.mp h9)
      simp [this]; omega
theorem lenK_v {K n : Nat} (h : vK K n) : lenK K = n := by
  unfold lenK
  rw [cnt_pre _ n 24 fun k hk => ?_]
  · have := h.1; omega
  · have := (h.2.2 k hk)
    simp only [bne_iff_ne, ne_eq]
    constructor
    · intro h9
      exact Decidable.byContradiction fun h8 => h9 (this.2 (by omega))
    · intro h9
      have := this.1 h9
      omega
def cat (K1 K2 : Nat) : Option Nat := if lenK K1 = 0 then some K2 else if lenK K2 = 0 then some K1 else if 24 < lenK K1 + 1 + lenK K2 then none else some (ofD 24 (catD K1 (lenK K1) K2))
theorem cat_v {K1 n1 K2 n2 K : Nat} (h1 : vK K1 n1) (h2 : vK K2 n2) (h : cat K1 K2 = some K) : vK K (catN n1 n2) ∧ catN n1 n2 ≤ 24 := by
  unfold cat at h
  rw [lenK_v h1, lenK_v h2] at h
  unfold catN
  by_cases a : n1 = 0
  · rw [if_pos a] at h ⊢
    obtain rfl := Option.some.inj h
    exact ⟨h2, h2.1⟩
  · rw [if_neg a] at h ⊢
    by_cases b : n2 = 0
    · rw [if_pos b] at h ⊢
      obtain rfl := Option.some.inj h
      exact ⟨h1, h1.1⟩
    · rw [if_neg b] at h ⊢
      by_cases c : 24 < n1 + 1 + n2
      · rw [if_pos c] at h; exact absurd h (by simp)
      · rw [if_neg c] at h
        obtain rfl := Option.some.inj h
        refine ⟨⟨by omega, ofD_lt (fun _ => catD_lt) 24, fun k hk => ?_⟩, by omega⟩
        rw [dg_ofD (fun _ => catD_lt) hk]
        unfold catD
        by_cases e1 : k < n1
        · rw [if_pos e1]
          exact ⟨fun _ => (h1.2.2 k hk).1 e1, fun h9 => by omega⟩
        · rw [if_neg e1]
          by_cases e2 : k = n1
          · rw [if_pos e2]
            exact ⟨fun _ => by omega, fun h9 => by omega⟩
          · rw [if_neg e2, if_pos hk]
            have g := h2.2.2 (k - n1 - 1) (by omega)
            exact ⟨fun h9 => g.1 (by omega), fun h9 => g.2 (by omega)⟩
/-- what tells the text of two -/
theorem cat_dg {K1 n1 K2 n2 K : Nat} (h1 : vK K1 n1) (h2 : vK K2 n2) (a : ¬ n1 = 0) (b : ¬ n2 = 0) (c : n1 + 1 + n2 ≤ 24) (hK : K < 32 ^ 24) (h : ∀ k, k < 24 → dg K k = catD K1 n1 K2 k) : cat K1 K2 = some K := by
  unfold cat
  rw [lenK_v h1, lenK_v h2, if_neg a, if_neg b, if_neg (by omega)]
  congr 1
  exact dg_ext (ofD_lt (fun _ => catD_lt) 24) hK fun k hk => by rw [dg_ofD (fun _ => catD_lt) hk, h k hk]
theorem cat_0 {K1 n1 K2 n2 : Nat} (h1 : vK K1 n1) (h2 : vK K2 n2) : (n1 = 0 → cat K1 K2 = some K2) ∧ (¬ n1 = 0 → n2 = 0 → cat K1 K2 = some K1) ∧ (¬ n1 = 0 → ¬ n2 = 0 → 24 < n1 + 1 + n2 → cat K1 K2 = none) := by
  unfold cat
  rw [lenK_v h1, lenK_v h2]
  exact ⟨fun h => if_pos h, fun h h' => by rw [if_neg h, if_pos h'], fun h h' h9 => by rw [if_neg h, if_neg h', if_pos h9]⟩
