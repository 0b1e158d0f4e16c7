/-! formulas: words of twelve letters -/
theorem wAnd (a b : Nat) : lN a &&& lN b = lN (a &&& b) := by
  apply Int64.toBitVec_inj.mp
  show BitVec.ofNat 64 a &&& BitVec.ofNat 64 b = BitVec.ofNat 64 (a &&& b)
  exact BitVec.ofNat_and.symm
theorem wOr (a b : Nat) : lN a ||| lN b = lN (a ||| b) := by
  apply Int64.toBitVec_inj.mp
  show BitVec.ofNat 64 a ||| BitVec.ofNat 64 b = BitVec.ofNat 64 (a ||| b)
  exact BitVec.ofNat_or.symm
theorem wOrS {a k : Nat} (b : Nat) (h : a < 2 ^ k) : lN (2 ^ k * b) ||| lN a = lN (2 ^ k * b + a) := by
  rw [wOr]
  congr 1
  exact (Nat.two_pow_add_eq_or_of_lt h b).symm
theorem wAmt : ∀ k : Nat, k < 64 → ((nI k).toInt64 &&& 63).toBitVec.smod 64 = BitVec.ofNat 64 k := by decide +kernel
theorem wShl (n : Nat) {k : Nat} (hk : k < 64) : lN n <<< ((nI k).toInt64 &&& 63) = lN (n * 2 ^ k) := by
  apply Int64.toBitVec_inj.mp
  rw [Int64.toBitVec_shiftLeft, wAmt k hk]
  apply BitVec.eq_of_toNat_eq
  show ((BitVec.ofNat 64 n) <<< (BitVec.ofNat 64 k)).toNat = (BitVec.ofNat 64 (n * 2 ^ k)).toNat
  rw [BitVec.shiftLeft_eq', BitVec.toNat_shiftLeft]
  simp only [BitVec.toNat_ofNat, Nat.shiftLeft_eq]
  rw [Nat.mod_eq_of_lt (show k < 2 ^ 64 by omega), Nat.mod_mul_mod]
theorem wShr {n : Nat} (hn : n < 2 ^ 63) {k : Nat} (hk : k < 64) : lN n >>> ((nI k).toInt64 &&& 63) = lN (n / 2 ^ k) := by
  apply Int64.toBitVec_inj.mp
  rw [Int64.toBitVec_shiftRight, wAmt k hk]
  show (BitVec.ofNat 64 n).sshiftRight' (BitVec.ofNat 64 k) = BitVec.ofNat 64 (n / 2 ^ k)
  rw [BitVec.sshiftRight', BitVec.sshiftRight_eq_of_msb_false (by rw [BitVec.msb_eq_false_iff_two_mul_lt]; simp only [BitVec.toNat_ofNat]; omega)]
  apply BitVec.eq_of_toNat_eq
  rw [BitVec.toNat_ushiftRight]
  simp only [BitVec.toNat_ofNat, Nat.shiftRight_eq_div_pow]
  rw [Nat.mod_eq_of_lt (show k < 2 ^ 64 by omega), Nat.mod_eq_of_lt (show n < 2 ^ 64 by omega), Nat.mod_eq_of_lt (Nat.lt_of_le_of_lt (Nat.div_le_self _ _) (show n < 2 ^ 64 by omega))]
theorem wMask (n : Nat) : lN n &&& 1152921504606846975 = lN (n % 2 ^ 60) := by
  show lN n &&& lN (2 ^ 60 - 1) = _
  rw [wAnd, Nat.and_two_pow_sub_one_eq_mod]
theorem wNeg {n : Nat} (h0 : 0 < n) (h : n < 2 ^ 63) : -lN n = lN (2 ^ 64 - n) := by
  apply Int64.toBitVec_inj.mp
  rw [Int64.toBitVec_neg]
  show -BitVec.ofNat 64 n = BitVec.ofNat 64 (2 ^ 64 - n)
  apply BitVec.eq_of_toNat_eq
  rw [BitVec.toNat_neg]
  simp only [BitVec.toNat_ofNat]
  rw [Nat.mod_eq_of_lt (show n < 2 ^ 64 by omega)]
theorem wLow {b c : Nat} (h : 2 ^ b * (2 * c + 1) < 2 ^ 63) : lN (2 ^ b * (2 * c + 1)) &&& -lN (2 ^ b * (2 * c + 1)) = lN (2 ^ b) := by
  have hp : 0 < 2 ^ b := Nat.two_pow_pos b
  have hpos : 0 < 2 ^ b * (2 * c + 1) := Nat.mul_pos hp (by omega)
  have hb : b < 63 := by
    refine (Nat.pow_lt_pow_iff_right (a := 2) (by decide)).mp (Nat.lt_of_le_of_lt ?_ h)
    exact Nat.le_mul_of_pos_right _ (by omega)
  rw [wNeg hpos h, wAnd]
  congr 1
  have e64 : 2 ^ 64 = 2 ^ (b + 1) * 2 ^ (63 - b) := by rw [← Nat.pow_add]; congr 1; omega
  have eX : 2 ^ b * (2 * c + 1) = 2 ^ (b + 1) * c + 2 ^ b := by rw [Nat.pow_succ, Nat.mul_add, Nat.mul_one, Nat.mul_assoc]
  have hc : c < 2 ^ (63 - b) := by
    have : 2 ^ (b + 1) * c < 2 ^ (b + 1) * 2 ^ (63 - b) := by rw [← e64]; omega
    exact Nat.lt_of_mul_lt_mul_left this
  have eY : 2 ^ 64 - 2 ^ b * (2 * c + 1) = 2 ^ (b + 1) * (2 ^ (63 - b) - (c + 1)) + 2 ^ b := by
    rw [eX, e64]
    have h1 : 2 ^ (b + 1) * (2 ^ (63 - b) - (c + 1)) = 2 ^ (b + 1) * 2 ^ (63 - b) - 2 ^ (b + 1) * (c + 1) := Nat.mul_sub _ _ _
    have h2 : 2 ^ (b + 1) * (c + 1) = 2 ^ (b + 1) * c + 2 ^ (b + 1) := Nat.mul_succ _ _
    have h3 : 2 ^ (b + 1) * (c + 1) ≤ 2 ^ (b + 1) * 2 ^ (63 - b) := Nat.mul_le_mul_left _ hc
    have h4 : 2 ^ (b + 1) = 2 * 2 ^ b := by rw [Nat.pow_succ, Nat.mul_comm]
    rw [h1]
    omega
  rw [eY, eX]
  have hlt : 2 ^ b < 2 ^ (b + 1) := Nat.pow_lt_pow_right (by decide) (by omega)
  apply Nat.eq_of_testBit_eq
  intro i
  rw [Nat.testBit_and, Nat.testBit_two_pow_mul_add _ hlt, Nat.testBit_two_pow_mul_add _ hlt]
  by_cases h1 : i < b + 1
  · rw [if_pos h1, if_pos h1, Bool.and_self]
  · rw [if_neg h1, if_neg h1, Nat.testBit_two_pow_sub_succ hc, Nat.testBit_two_pow]
    rw [show decide (b = i) = false from decide_eq_false (by omega)]
    cases c.testBit (i - (b + 1)) <;> simp

theorem vK_tail {K n : Nat} (h : vK K n) : K = K / 32 ^ (24 - n) * 32 ^ (24 - n) := by
  have h1 := ofD_dg h.2.1 n h.1
  have h2 : ∀ m, n + m ≤ 24 → ofD (n + m) (dg K) = ofD n (dg K) * 32 ^ m := by
    intro m
    induction m with
    | zero => intro _; simp
    | succ m ih =>
      intro hm
      rw [← Nat.add_assoc, ofD, ih (by omega), (h.2.2 (n + m) (by omega)).2 (by omega), Nat.pow_succ, Nat.mul_assoc, Nat.add_zero]
  have h3 := h2 (24 - n) (by have := h.1; omega)
  rw [show n + (24 - n) = 24 by have := h.1; omega, ofD_dg h.2.1 24 (by omega), h1] at h3
  simp at h3
  exact h3
/-- two texts one behind the other, as a sum -/
theorem cat_sum {K1 n1 K2 n2 : Nat} (h1 : vK K1 n1) (h2 : vK K2 n2) (a : ¬ n1 = 0) (b : ¬ n2 = 0) (c : n1 + 1 + n2 ≤ 24) : cat K1 K2 = some (K1 + 32 ^ (23 - n1) + K2 / 32 ^ (n1 + 1)) ∧ K2 / 32 ^ (n1 + 1) < 32 ^ (23 - n1) ∧ K1 + 32 ^ (23 - n1) + K2 / 32 ^ (n1 + 1) < 32 ^ 24 := by
  have hC : K2 / 32 ^ (n1 + 1) < 32 ^ (23 - n1) := by
    refine Nat.div_lt_of_lt_mul ?_
    rw [← Nat.pow_add, show n1 + 1 + (23 - n1) = 24 by omega]
    exact h2.2.1
  have hA := vK_tail h1
  have hA2 : K1 / 32 ^ (24 - n1) < 32 ^ n1 := by
    refine Nat.div_lt_of_lt_mul ?_
    rw [← Nat.pow_add, show 24 - n1 + n1 = 24 by omega]
    exact h1.2.1
  have e24 : 32 ^ (24 - n1) = 32 * 32 ^ (23 - n1) := by rw [show 24 - n1 = (23 - n1) + 1 by omega, Nat.pow_succ, Nat.mul_comm]
  have hS : K1 + 32 ^ (23 - n1) + K2 / 32 ^ (n1 + 1) < 32 ^ 24 := by
    have e : (32 : Nat) ^ 24 = 32 ^ n1 * 32 ^ (24 - n1) := by rw [← Nat.pow_add, show n1 + (24 - n1) = 24 by omega]
    have : (K1 / 32 ^ (24 - n1) + 1) * 32 ^ (24 - n1) ≤ 32 ^ n1 * 32 ^ (24 - n1) := Nat.mul_le_mul_right _ hA2
    rw [Nat.add_mul, ← hA] at this
    rw [e]
    omega
  refine ⟨cat_dg h1 h2 a b c hS fun k hk => ?_, hC, hS⟩
  generalize hCC : K2 / 32 ^ (n1 + 1) = C at *
  generalize hAA : K1 / 32 ^ (24 - n1) = A at *
  unfold catD
  by_cases e1 : k < n1
  · rw [if_pos e1]
    have e3 : ∀ x, x / 32 ^ (23 - k) = x / 32 ^ (24 - n1) / 32 ^ (n1 - 1 - k) := fun x => by
      rw [Nat.div_div_eq_div_mul, ← Nat.pow_add, show 24 - n1 + (n1 - 1 - k) = 23 - k by omega]
    unfold dg
    rw [e3, e3]
    congr 2
    rw [hAA, hA, Nat.add_assoc, Nat.mul_comm A, Nat.mul_add_div (Nat.pow_pos (by decide)), Nat.div_eq_of_lt (by omega), Nat.add_zero]
  · rw [if_neg e1]
    have hB : (0 : Nat) < 32 ^ (23 - n1) := Nat.pow_pos (by decide)
    have e4 : K1 + 32 ^ (23 - n1) + C = 32 ^ (23 - n1) * (32 * A + 1) + C := by
      have : 32 ^ (23 - n1) * (32 * A + 1) = 32 ^ (23 - n1) * (32 * A) + 32 ^ (23 - n1) := by rw [Nat.mul_add, Nat.mul_one]
      have e5 : 32 ^ (23 - n1) * (32 * A) = A * 32 ^ (24 - n1) := by rw [e24, Nat.mul_comm A, Nat.mul_assoc, Nat.mul_left_comm]
      rw [this, e5, ← hA]
    by_cases e2 : k = n1
    · subst e2
      rw [if_pos rfl]
      unfold dg
      rw [e4, Nat.mul_add_div hB, Nat.div_eq_of_lt hC]
      omega
    · rw [if_neg e2, if_pos hk]
      unfold dg
      have e6 : (32 : Nat) ^ (23 - n1) = 32 ^ (23 - k) * (32 * 32 ^ (k - n1 - 1)) := by
        rw [← Nat.pow_succ', ← Nat.pow_add, show 23 - k + (k - n1 - 1 + 1) = 23 - n1 by omega]
      rw [e4, e6, Nat.mul_assoc, Nat.mul_add_div (Nat.pow_pos (by decide)), ← hCC, Nat.div_div_eq_div_mul, ← Nat.pow_add, show n1 + 1 + (23 - k) = 23 - (k - n1 - 1) by omega, Nat.mul_assoc, Nat.mul_add_mod]
theorem pw32 (n : Nat) : (32 : Nat) ^ n = 2 ^ (5 * n) := by rw [Nat.pow_mul]
/-- the longs of two texts one behind the other -/
theorem cat_hi {K1 n1 K2 : Nat} (a : 12 ≤ n1) (c : n1 ≤ 22) (hK : K1 % 2 ^ (5 * (24 - n1)) = 0) (h2 : K2 < 2 ^ 120) : (K1 + 2 ^ (5 * (23 - n1)) + K2 / 2 ^ (5 * (n1 + 1))) / 2 ^ 60 = K1 / 2 ^ 60 ∧ (K1 + 2 ^ (5 * (23 - n1)) + K2 / 2 ^ (5 * (n1 + 1))) % 2 ^ 60 = K1 % 2 ^ 60 + 2 ^ (5 * (23 - n1)) + K2 / 2 ^ 60 / 2 ^ (5 * (n1 - 11)) ∧ K1 % 2 ^ 60 = 2 ^ (5 * (24 - n1)) * (K1 % 2 ^ 60 / 2 ^ (5 * (24 - n1))) ∧ K2 / 2 ^ 60 / 2 ^ (5 * (n1 - 11)) < 2 ^ (5 * (23 - n1)) := by
  have : n1 = 12 ∨ n1 = 13 ∨ n1 = 14 ∨ n1 = 15 ∨ n1 = 16 ∨ n1 = 17 ∨ n1 = 18 ∨ n1 = 19 ∨ n1 = 20 ∨ n1 = 21 ∨ n1 = 22 := by omega
  rcases this with rfl | rfl | rfl | rfl | rfl | rfl | rfl | rfl | rfl | rfl | rfl <;> (simp only [Nat.reduceSub, Nat.reduceMul, Nat.reduceAdd, Nat.reducePow] at *; omega)
theorem cat_lo {K1 n1 K2 : Nat} (a : 1 ≤ n1) (c : n1 ≤ 11) (hK : K1 % 2 ^ (5 * (24 - n1)) = 0) (h2 : K2 < 2 ^ 120) : (K1 + 2 ^ (5 * (23 - n1)) + K2 / 2 ^ (5 * (n1 + 1))) / 2 ^ 60 = K1 / 2 ^ 60 + 2 ^ (5 * (11 - n1)) + K2 / 2 ^ 60 / 2 ^ (5 * (n1 + 1)) ∧ (K1 + 2 ^ (5 * (23 - n1)) + K2 / 2 ^ (5 * (n1 + 1))) % 2 ^ 60 = K2 / 2 ^ 60 * 2 ^ (60 - 5 * (n1 + 1)) % 2 ^ 60 + K2 % 2 ^ 60 / 2 ^ (5 * (n1 + 1)) ∧ K1 / 2 ^ 60 = 2 ^ (5 * (12 - n1)) * (K1 / 2 ^ 60 / 2 ^ (5 * (12 - n1))) ∧ K2 / 2 ^ 60 / 2 ^ (5 * (n1 + 1)) < 2 ^ (5 * (11 - n1)) ∧ K2 / 2 ^ 60 * 2 ^ (60 - 5 * (n1 + 1)) % 2 ^ 60 = 2 ^ (60 - 5 * (n1 + 1)) * (K2 / 2 ^ 60 % 2 ^ (5 * (n1 + 1))) ∧ K2 % 2 ^ 60 / 2 ^ (5 * (n1 + 1)) < 2 ^ (60 - 5 * (n1 + 1)) := by
  have : n1 = 1 ∨ n1 = 2 ∨ n1 = 3 ∨ n1 = 4 ∨ n1 = 5 ∨ n1 = 6 ∨ n1 = 7 ∨ n1 = 8 ∨ n1 = 9 ∨ n1 = 10 ∨ n1 = 11 := by omega
  rcases this with rfl | rfl | rfl | rfl | rfl | rfl | rfl | rfl | rfl | rfl | rfl <;> (simp only [Nat.reduceSub, Nat.reduceMul, Nat.reduceAdd, Nat.reducePow] at *; omega)
/-- a number's last digit that is not none: its lowest bit -/
theorem low5 {X m : Nat} (h0 : X % 32 ^ m = 0) (h1 : ¬ X / 32 ^ m % 32 = 0) : ∃ b c, 5 * m ≤ b ∧ b < 5 * m + 5 ∧ X = 2 ^ b * (2 * c + 1) := by
  have hX : X = 32 ^ m * (X / 32 ^ m) := by have := Nat.div_add_mod X (32 ^ m); omega
  generalize X / 32 ^ m = y at *
  have : y % 2 = 1 ∨ y % 4 = 2 ∨ y % 8 = 4 ∨ y % 16 = 8 ∨ y % 32 = 16 := by omega
  have key : ∀ e z, e < 5 → y = 2 ^ e * (2 * z + 1) → ∃ b c, 5 * m ≤ b ∧ b < 5 * m + 5 ∧ X = 2 ^ b * (2 * c + 1) := fun e z he hy => ⟨5 * m + e, z, by omega, by omega, by rw [hX, hy, pw32, Nat.pow_add, Nat.mul_assoc]⟩
  rcases this with h | h | h | h | h
  · exact key 0 (y / 2) (by omega) (by simp only [Nat.reducePow]; omega)
  · exact key 1 (y / 4) (by omega) (by simp only [Nat.reducePow]; omega)
  · exact key 2 (y / 8) (by omega) (by simp only [Nat.reducePow]; omega)
  · exact key 3 (y / 16) (by omega) (by simp only [Nat.reducePow]; omega)
  · exact key 4 (y / 32) (by omega) (by simp only [Nat.reducePow]; omega)
theorem vK_half {K n : Nat} (h : vK K n) : (n = 0 → K / 2 ^ 60 = 0 ∧ K % 2 ^ 60 = 0) ∧ (0 < n → n ≤ 12 → K % 2 ^ 60 = 0 ∧ K / 2 ^ 60 % 32 ^ (12 - n) = 0 ∧ ¬ K / 2 ^ 60 / 32 ^ (12 - n) % 32 = 0) ∧ (12 < n → ¬ K / 2 ^ 60 = 0 ∧ K % 2 ^ 60 % 32 ^ (24 - n) = 0 ∧ ¬ K % 2 ^ 60 / 32 ^ (24 - n) % 32 = 0) := by
  have hn := h.1
  have ht := vK_tail h
  have hd : 0 < n → ¬ K / 32 ^ (24 - n) % 32 = 0 := fun h0 => by
    have g := (h.2.2 (n - 1) (by omega)).1 (by omega)
    unfold dg at g
    rw [show 23 - (n - 1) = 24 - n by omega] at g
    omega
  refine ⟨fun h0 => ?_, fun h0 h1 => ?_, fun h0 => ?_⟩
  · subst h0
    rw [vK_z h]
    exact ⟨rfl, rfl⟩
  · have := hd h0
    have : n = 1 ∨ n = 2 ∨ n = 3 ∨ n = 4 ∨ n = 5 ∨ n = 6 ∨ n = 7 ∨ n = 8 ∨ n = 9 ∨ n = 10 ∨ n = 11 ∨ n = 12 := by omega
    rcases this with rfl | rfl | rfl | rfl | rfl | rfl | rfl | rfl | rfl | rfl | rfl | rfl <;> (simp only [Nat.reduceSub, Nat.reduceMul, Nat.reduceAdd, Nat.reducePow] at *; omega)
  · have := hd (by omega)
    have d0 := (h.2.2 0 (by omega)).1 (by omega)
    unfold dg at d0
    have : n = 13 ∨ n = 14 ∨ n = 15 ∨ n = 16 ∨ n = 17 ∨ n = 18 ∨ n = 19 ∨ n = 20 ∨ n = 21 ∨ n = 22 ∨ n = 23 ∨ n = 24 := by omega
    rcases this with rfl | rfl | rfl | rfl | rfl | rfl | rfl | rfl | rfl | rfl | rfl | rfl <;> (simp only [Nat.reduceSub, Nat.reduceMul, Nat.reduceAdd, Nat.reducePow] at *; omega)
