/-! letters of texts -/
theorem tL {x : Int64} (h : 0 ≤ x) : x.toInt = (x.toBitVec.toNat : Int) ∧ x.toBitVec.toNat < 2 ^ 63 := by
  have h0 := Int64.le_iff_toInt_le.mp h
  rw [show (0 : Int64).toInt = 0 from rfl] at h0
  have h2 : x.toInt = x.toBitVec.toInt := rfl
  have h3 := Int64.toInt_lt x
  rw [h2] at h0 h3 ⊢
  rw [BitVec.toInt_eq_toNat_cond] at h0 h3 ⊢
  split at h0
  · rename_i h4; rw [if_pos h4] at h3 ⊢; exact ⟨rfl, by omega⟩
  · rename_i h4
    have := x.toBitVec.isLt
    omega
theorem shr64 {x y : Int64} {k : Nat} (hx : 0 ≤ x) (hy : y.toBitVec.smod 64 = BitVec.ofNat 64 k) (hk : k < 64) : (x >>> y).toInt = x.toInt / 2 ^ k := by
  have h2 : (x >>> y).toBitVec = x.toBitVec.sshiftRight k := by
    have : (x >>> y).toBitVec = x.toBitVec.sshiftRight' (y.toBitVec.smod 64) := rfl
    rw [this, hy]
    show x.toBitVec.sshiftRight (BitVec.ofNat 64 k).toNat = _
    rw [BitVec.toNat_ofNat, Nat.mod_eq_of_lt (by omega)]
  have h3 : (x >>> y).toInt = (x >>> y).toBitVec.toInt := rfl
  rw [h3, h2, BitVec.toInt_sshiftRight, Int.shiftRight_eq_div_pow]
  rfl
theorem and31 {x : Int64} (h : 0 ≤ x) : (x &&& 31).toInt = x.toInt % 32 := by
  obtain ⟨h1, h3⟩ := tL h
  have h2 : (x &&& 31).toBitVec.toNat = x.toBitVec.toNat % 32 := by
    have : (x &&& 31).toBitVec = x.toBitVec &&& 31#64 := rfl
    rw [this, BitVec.toNat_and]
    exact Nat.and_two_pow_sub_one_eq_mod _ 5
  have h4 : (x &&& 31).toInt = ((x &&& 31).toBitVec.toNat : Int) := by
    have : (x &&& 31).toInt = (x &&& 31).toBitVec.toInt := rfl
    rw [this, BitVec.toInt_eq_toNat_cond, if_pos (by rw [h2]; omega)]
  rw [h4, h2, h1]
  omega
theorem sh5 : ∀ j : Nat, j < 12 → (Int32.toInt64 ((11 - nI j) * 5) &&& 63).toBitVec.smod 64 = BitVec.ofNat 64 (5 * (11 - j)) := by decide +kernel
theorem dc5_c {x : Int64} {j : Nat} (hx : 0 ≤ x) (hj : j < 12) : Int64.toInt32 ((x >>> (Int32.toInt64 ((11 - nI j) * 5) &&& 63)) &&& 31) = nI (tx5 x j) := by
  have h0 := Int64.le_iff_toInt_le.mp hx
  rw [show (0 : Int64).toInt = 0 from rfl] at h0
  have h1 := shr64 hx (sh5 j hj) (by omega)
  have h2 : 0 ≤ x >>> (Int32.toInt64 ((11 - nI j) * 5) &&& 63) := by
    rw [Int64.le_iff_toInt_le, h1, show (0 : Int64).toInt = 0 from rfl]
    exact Int.ediv_nonneg h0 (by exact Int.le_of_lt (Int.pow_pos (by decide)))
  have h3 := and31 h2
  rw [h1] at h3
  have h5 : tx5 x j < 32 := by unfold tx5; exact Nat.mod_lt _ (by decide)
  have h6 : ((tx5 x j : Nat) : Int) = x.toInt / 2 ^ (5 * (11 - j)) % 32 := by
    unfold tx5
    rw [Int.natCast_emod, Int.natCast_ediv, Int.toNat_of_nonneg h0]
    norm_cast
  apply Int32.toInt_inj.mp
  rw [nI_toInt (by omega), Int64.toInt_toInt32, h3, ← h6]
  exact Int.bmod_eq_of_le (by omega) (by omega)
theorem dc5_s {x : Int64} {j : Nat} (hx : 0 ≤ x) (hj : j < 12) : dc5 x (11 - nI j) = if tx5 x j = 0 then -1 else if tx5 x j = 1 then 26 else nI (tx5 x j) - 2 := by
  have h5 : tx5 x j < 32 := by unfold tx5; exact Nat.mod_lt _ (by decide)
  unfold dc5
  rw [dc5_c hx hj]
  have e0 : nI (tx5 x j) = 0 ↔ tx5 x j = 0 := nI_eq (b := 0) (by omega) (by decide)
  have e1 : nI (tx5 x j) = 1 ↔ tx5 x j = 1 := nI_eq (b := 1) (by omega) (by decide)
  by_cases h0 : tx5 x j = 0
  · rw [if_pos (e0.mpr h0), if_pos h0]
  · rw [if_neg (fun h => h0 (e0.mp h)), if_neg h0]
    by_cases h1 : tx5 x j = 1
    · rw [if_pos (e1.mpr h1), if_pos h1]
    · rw [if_neg (fun h => h1 (e1.mp h)), if_neg h1]
/-- the letter of a text, as both tell it -/
def ltR (sz : Int32) (le : Nat → Int32) (k : Int32) : Int32 := if 0 ≤ k ∧ k < sz then (if le k.toNatClampNeg = 0 then 26 else le k.toNatClampNeg - 1) else -1
theorem cLt_s {hd tl : Int64} {sz : Int32} {le : Nat → Int32} (h : txt1 hd tl sz le) (k : Int32) : cLt hd tl k = ltR sz le k := by
  obtain ⟨a1, a2, a3, a4, a5, a6, a7⟩ := h
  unfold cLt ltR
  by_cases hk : k < 0 ∨ 24 ≤ k
  · rw [if_pos hk, if_neg (by grind)]
  · rw [if_neg hk]
    obtain ⟨j, hj, rfl⟩ := nI_ofL (x := k) (n := 24) (by decide) (by grind) (by show k < 24; grind)
    have h7 := a7 j hj
    rw [nI_clamp (by omega)]
    have h0 : 0 ≤ nI j := nI_pos' (by omega)
    have key : ∀ c : Nat, c = (if nI j < sz then (le j).toInt.toNat + 1 else 0) → (if c = 0 then (-1 : Int32) else if c = 1 then 26 else nI c - 2) = if 0 ≤ nI j ∧ nI j < sz then (if le j = 0 then 26 else le j - 1) else -1 := fun c hc => by
      by_cases hs : nI j < sz
      · rw [if_pos hs] at hc
        rw [if_pos (show 0 ≤ nI j ∧ nI j < sz from ⟨h0, hs⟩), if_neg (show ¬ c = 0 by omega)]
        have hl := h7.2 hs
        have l0 := i0 hl.1
        have l1 := Int32.le_iff_toInt_le.mp hl.2
        rw [show (26 : Int32).toInt = 26 from rfl] at l1
        by_cases he : le j = 0
        · rw [if_pos he]
          rw [he] at hc
          rw [if_pos (show c = 1 by rw [hc]; rfl)]
        · rw [if_neg he]
          have hne : ¬ (le j).toInt = 0 := fun e => he (Int32.toInt_inj.mp e)
          rw [if_neg (show ¬ c = 1 by omega)]
          apply Int32.toInt_inj.mp
          rw [ti_sub (by rw [nI_toInt (by omega), show (2 : Int32).toInt = 2 from rfl]; omega), ti_sub (by rw [show (1 : Int32).toInt = 1 from rfl]; omega), nI_toInt (by omega), show (2 : Int32).toInt = 2 from rfl, show (1 : Int32).toInt = 1 from rfl]
          omega
      · rw [if_neg hs] at hc
        rw [if_pos hc, if_neg (show ¬ (0 ≤ nI j ∧ nI j < sz) from fun h => hs h.2)]
    by_cases h12 : j < 12
    · rw [if_pos (show nI j < 12 from (nI_ltI (by omega) (by decide)).mpr h12), dc5_s a1 h12]
      refine key _ ?_
      rw [if_pos h12] at h7
      exact h7.1
    · rw [if_neg (show ¬ nI j < 12 from fun h => h12 ((nI_ltI (by omega) (by decide)).mp h))]
      have e : nI j - 12 = nI (j - 12) := by
        have : nI j = nI (j - 12) + nI 12 := by rw [nI_add]; congr 1; omega
        rw [this, show (12 : Int32) = nI 12 from rfl]
        grind
      rw [e, dc5_s a3 (by omega)]
      refine key _ ?_
      rw [if_neg h12] at h7
      exact h7.1
