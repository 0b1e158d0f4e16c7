/-! a line through a chain of stones -/
def cT (rt n : Nat → Int32) : Nat → Int32 → Int32
  | 0, _ => 0
  | m + 1, s => if s < 0 then 0 else n s.toNatClampNeg + cT rt n m (rt s.toNatClampNeg)
def cM (rt n : Nat → Int32) (mf : Int32 → Int32 → Int32) : Nat → Int32 → Int32 → Int32
  | 0, _, _ => 0
  | m + 1, s, k => if s < 0 then 0 else if k < n s.toNatClampNeg then mf s k else cM rt n mf m (rt s.toNatClampNeg) (k - n s.toNatClampNeg)
theorem cT_neg {rt n : Nat → Int32} {m : Nat} {s : Int32} (h : s < 0) : cT rt n m s = 0 := by
  cases m with
  | zero => rfl
  | succ m => unfold cT; exact if_pos h
theorem cM_neg {rt n : Nat → Int32} {mf : Int32 → Int32 → Int32} {m : Nat} {s k : Int32} (h : s < 0) : cM rt n mf m s k = 0 := by
  cases m with
  | zero => rfl
  | succ m => unfold cM; exact if_pos h
theorem chTM {n0 : Int32} {rt n : Nat → Int32} {r : Nat → Nat} (mf : Int32 → Int32 → Int32) (hr : ∀ x : Int32, 0 ≤ x → x < n0 → 0 ≤ rt x.toNatClampNeg → rt x.toNatClampNeg < n0 ∧ r x.toNatClampNeg = r (rt x.toNatClampNeg).toNatClampNeg + 1) (hr12 : ∀ x : Int32, 0 ≤ x → x < n0 → r x.toNatClampNeg < 12) (hn : ∀ x : Int32, 0 ≤ x → x < n0 → 1 ≤ n x.toNatClampNeg ∧ n x.toNatClampNeg ≤ 24) : ∃ (T : Int32 → Int32) (M : Int32 → Int32 → Int32), (∀ x : Int32, x < 0 → T x = 0) ∧ (∀ x : Int32, 0 ≤ x → x < n0 → T x = n x.toNatClampNeg + T (rt x.toNatClampNeg) ∧ 0 ≤ T (rt x.toNatClampNeg) ∧ T (rt x.toNatClampNeg) ≤ 300) ∧ ∀ x k : Int32, 0 ≤ x → x < n0 → (k < n x.toNatClampNeg → M x k = mf x k) ∧ (¬ k < n x.toNatClampNeg → M x k = M (rt x.toNatClampNeg) (k - n x.toNatClampNeg)) := by
  have hb : ∀ (m : Nat) (x : Int32), m ≤ 12 → (x < 0 ∨ (0 ≤ x ∧ x < n0 ∧ r x.toNatClampNeg < m)) → 0 ≤ (cT rt n m x).toInt ∧ (cT rt n m x).toInt ≤ 24 * m := fun m => by
    induction m with
    | zero => intro x _ _; exact ⟨(by decide : (0 : Int) ≤ (0 : Int32).toInt), (by decide : (0 : Int32).toInt ≤ 24 * ((0 : Nat) : Int))⟩
    | succ m ih =>
      intro x hm hx
      by_cases h0 : x < 0
      · rw [cT_neg h0]; exact ⟨by decide, by show (0 : Int) ≤ _; omega⟩
      · have hx2 : 0 ≤ x ∧ x < n0 ∧ r x.toNatClampNeg < m + 1 := hx.resolve_left h0
        have h9 := ih (rt x.toNatClampNeg) (by omega) (by
          by_cases h1 : 0 ≤ rt x.toNatClampNeg
          · exact Or.inr ⟨h1, (hr x hx2.1 hx2.2.1 h1).1, by have := (hr x hx2.1 hx2.2.1 h1).2; have := hx2.2.2; omega⟩
          · exact Or.inl (Int32.not_le.mp h1))
        unfold cT
        rw [if_neg h0]
        have hnn := hn x hx2.1 hx2.2.1
        have a0 := Int32.le_iff_toInt_le.mp hnn.1
        have a1 := Int32.le_iff_toInt_le.mp hnn.2
        rw [show (24 : Int32).toInt = 24 from rfl] at a1
        rw [show (1 : Int32).toInt = 1 from rfl] at a0
        rw [ti_add (by omega)]
        omega
  have hf : ∀ x : Int32, 0 ≤ x → x < n0 → cT rt n (r x.toNatClampNeg) (rt x.toNatClampNeg) = cT rt n (r (rt x.toNatClampNeg).toNatClampNeg + 1) (rt x.toNatClampNeg) := fun x h0 hx => by
    by_cases h1 : 0 ≤ rt x.toNatClampNeg
    · rw [← (hr x h0 hx h1).2]
    · rw [cT_neg (Int32.not_le.mp h1), cT_neg (Int32.not_le.mp h1)]
  have hg : ∀ x k : Int32, 0 ≤ x → x < n0 → cM rt n mf (r x.toNatClampNeg) (rt x.toNatClampNeg) k = cM rt n mf (r (rt x.toNatClampNeg).toNatClampNeg + 1) (rt x.toNatClampNeg) k := fun x k h0 hx => by
    by_cases h1 : 0 ≤ rt x.toNatClampNeg
    · rw [← (hr x h0 hx h1).2]
    · rw [cM_neg (Int32.not_le.mp h1), cM_neg (Int32.not_le.mp h1)]
  refine ⟨fun x => cT rt n (r x.toNatClampNeg + 1) x, fun x k => cM rt n mf (r x.toNatClampNeg + 1) x k, fun x h => cT_neg h, fun x h0 hx => ?_, fun x k h0 hx => ?_⟩
  · dsimp only
    rw [← hf x h0 hx]
    refine ⟨if_neg (Int32.not_lt.mpr h0), ?_⟩
    have h9 := hb (r x.toNatClampNeg) (rt x.toNatClampNeg) (by have := hr12 x h0 hx; omega) (by
      by_cases h1 : 0 ≤ rt x.toNatClampNeg
      · exact Or.inr ⟨h1, (hr x h0 hx h1).1, by have := (hr x h0 hx h1).2; omega⟩
      · exact Or.inl (Int32.not_le.mp h1))
    have h8 := hr12 x h0 hx
    rw [fa_le, fa_le, show (0 : Int32).toInt = 0 from rfl, show (300 : Int32).toInt = 300 from rfl]
    omega
  · dsimp only
    rw [← hg x _ h0 hx]
    refine ⟨fun h => (if_neg (Int32.not_lt.mpr h0)).trans (if_pos h), fun h => (if_neg (Int32.not_lt.mpr h0)).trans (if_neg h)⟩
