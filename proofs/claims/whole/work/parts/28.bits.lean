/-! how many bits -/
def us32 (x n : Int32) : Int32 := (x.toUInt32 >>> (n.toUInt32 &&& Int32.toUInt32 31)).toInt32
def fB1 (x : Int32) : Int32 := x - (us32 x 1 &&& 1431655765)
def fB2 (x : Int32) : Int32 := (x &&& 858993459) + (us32 x 2 &&& 858993459)
def fB3 (x : Int32) : Int32 := (x + us32 x 4) &&& 252645135
def fB4 (x : Int32) : Int32 := x + us32 x 8
def fB5 (x : Int32) : Int32 := x + us32 x 16
def fBC (x : Int32) : Int32 := fB5 (fB4 (fB3 (fB2 (fB1 x)))) &&& 63
def bS1 (M x : Nat) : Nat := x - (x / 2 &&& M)
def bS2 (M x : Nat) : Nat := (x &&& M) + (x / 4 &&& M)
def bS3 (M x : Nat) : Nat := (x + x / 16) &&& M
theorem and_split (u m M : Nat) (hm : m < 256) : u &&& (m + 256 * M) = (u % 256 &&& m) + 256 * (u / 256 &&& M) := by
  have h1 : (u &&& (m + 256 * M)) % 256 = (u % 256 &&& m) := by
    have := Nat.and_mod_two_pow (a := u) (b := m + 256 * M) (n := 8)
    rw [show (2 : Nat) ^ 8 = 256 from rfl] at this
    rw [this, show (m + 256 * M) % 256 = m from by omega]
  have h2 : (u &&& (m + 256 * M)) / 256 = (u / 256 &&& M) := by
    have := Nat.and_div_two_pow (a := u) (b := m + 256 * M) (n := 8)
    rw [show (2 : Nat) ^ 8 = 256 from rfl] at this
    rw [this, show (m + 256 * M) / 256 = M from by omega]
  omega
theorem bS1_split (M a q : Nat) (ha : a < 256) : bS1 (85 + 256 * M) (a + 256 * q) = bS1 85 a + 256 * bS1 M q := by
  unfold bS1
  rw [and_split _ _ _ (by decide)]
  have h1 : (a + 256 * q) / 2 / 256 = q / 2 := by omega
  have h2 : (a + 256 * q) / 2 % 256 = a / 2 + 128 * (q % 2) := by omega
  have h3 : ∀ a < 256, ∀ b < 2, (a / 2 + 128 * b) &&& 85 = (a / 2 &&& 85) := by decide +kernel
  rw [h1, h2, h3 a ha _ (Nat.mod_lt _ (by decide))]
  have h4 : (a / 2 &&& 85) ≤ a / 2 := Nat.and_le_left
  have h5 : (q / 2 &&& M) ≤ q / 2 := Nat.and_le_left
  omega
theorem bS2_split (M a q : Nat) (ha : a < 256) : bS2 (51 + 256 * M) (a + 256 * q) = bS2 51 a + 256 * bS2 M q := by
  unfold bS2
  rw [and_split _ _ _ (by decide), and_split _ _ _ (by decide)]
  have h1 : (a + 256 * q) / 4 / 256 = q / 4 := by omega
  have h2 : (a + 256 * q) / 4 % 256 = a / 4 + 64 * (q % 4) := by omega
  have h3 : ∀ a < 256, ∀ b < 4, (a / 4 + 64 * b) &&& 51 = (a / 4 &&& 51) := by decide +kernel
  have h4 : (a + 256 * q) % 256 = a := by omega
  have h5 : (a + 256 * q) / 256 = q := by omega
  rw [h1, h2, h3 a ha _ (Nat.mod_lt _ (by decide)), h4, h5]
  omega
theorem bS3_split (M a q : Nat) (ha : a ≤ 68) (hq : q % 16 ≤ 4) : bS3 (15 + 256 * M) (a + 256 * q) = bS3 15 a + 256 * bS3 M q := by
  unfold bS3
  rw [and_split _ _ _ (by decide)]
  have h1 : (a + 256 * q + (a + 256 * q) / 16) / 256 = q + q / 16 := by omega
  have h2 : (a + 256 * q + (a + 256 * q) / 16) % 256 = a + a / 16 + 16 * (q % 16) := by omega
  have h3 : (a + a / 16 + 16 * (q % 16)) &&& 15 = (a + a / 16) &&& 15 := by
    have e : ∀ x : Nat, x &&& 15 = x % 16 := fun x => Nat.and_two_pow_sub_one_eq_mod x 4
    rw [e, e]; omega
  rw [h1, h2, h3]
def c8 (a : Nat) : Nat := bS3 15 (bS2 51 (bS1 85 a))
theorem c8_s2 : ∀ a < 256, bS1 85 a < 256 ∧ bS2 51 (bS1 85 a) ≤ 68 ∧ bS2 51 (bS1 85 a) % 16 ≤ 4 ∧ c8 a ≤ 8 ∧ (c8 a = 0 ↔ a = 0) ∧ (2 ≤ c8 a ↔ ¬ a &&& (a - 1) = 0) := by decide +kernel
theorem bS_all (x : Nat) (hx : x < 4294967296) : bS3 252645135 (bS2 858993459 (bS1 1431655765 x)) = c8 (x % 256) + 256 * (c8 (x / 256 % 256) + 256 * (c8 (x / 65536 % 256) + 256 * c8 (x / 16777216))) := by
  have e : x = x % 256 + 256 * (x / 256 % 256 + 256 * (x / 65536 % 256 + 256 * (x / 16777216))) := by omega
  have h0 : x % 256 < 256 := by omega
  have h1 : x / 256 % 256 < 256 := by omega
  have h2 : x / 65536 % 256 < 256 := by omega
  have h3 : x / 16777216 < 256 := by omega
  generalize x % 256 = a0 at e h0 ⊢
  generalize x / 256 % 256 = a1 at e h1 ⊢
  generalize x / 65536 % 256 = a2 at e h2 ⊢
  generalize x / 16777216 = a3 at e h3 ⊢
  obtain ⟨p0, p1, p2, _⟩ := c8_s2 a0 h0
  obtain ⟨q0, q1, q2, _⟩ := c8_s2 a1 h1
  obtain ⟨r0, r1, r2, _⟩ := c8_s2 a2 h2
  obtain ⟨s0, s1, s2, _⟩ := c8_s2 a3 h3
  subst e
  rw [show (1431655765 : Nat) = 85 + 256 * (85 + 256 * (85 + 256 * 85)) from rfl, bS1_split _ _ _ h0, bS1_split _ _ _ h1, bS1_split _ _ _ h2,
    show (858993459 : Nat) = 51 + 256 * (51 + 256 * (51 + 256 * 51)) from rfl, bS2_split _ _ _ p0, bS2_split _ _ _ q0, bS2_split _ _ _ r0,
    show (252645135 : Nat) = 15 + 256 * (15 + 256 * (15 + 256 * 15)) from rfl, bS3_split _ _ _ p1 (by omega), bS3_split _ _ _ q1 (by omega), bS3_split _ _ _ r1 (by omega)]
  rfl
def tc8 : Nat → Nat → Nat
  | 0, _ => 0
  | n + 1, x => c8 (x % 256) + tc8 n (x / 256)
theorem tc8_spec : ∀ (n x : Nat), x < 256 ^ n → (tc8 n x = 0 ↔ x = 0) ∧ (2 ≤ tc8 n x ↔ ¬ x &&& (x - 1) = 0) := by
  intro n
  induction n with
  | zero =>
    intro x hx
    have : x = 0 := by simpa using hx
    subst this
    decide
  | succ n ih =>
    intro x hx
    have hq : x / 256 < 256 ^ n := by rw [Nat.pow_succ] at hx; exact Nat.div_lt_of_lt_mul (by omega)
    obtain ⟨i1, i2⟩ := ih _ hq
    have ha : x % 256 < 256 := Nat.mod_lt _ (by decide)
    obtain ⟨_, _, _, _, b1, b2⟩ := c8_s2 _ ha
    simp only [tc8]
    have e : x = x % 256 + 256 * (x / 256) := by omega
    generalize x % 256 = a at *
    generalize x / 256 = q at *
    subst e
    refine ⟨by omega, ?_⟩
    have hs := and_split (a + 256 * q - 1) a q ha
    rw [Nat.and_comm, hs]
    rcases Nat.eq_zero_or_pos a with h | h
    · subst h
      rcases Nat.eq_zero_or_pos q with h2 | h2
      · subst h2
        have h3 : tc8 n 0 = 0 := i1.mpr rfl
        rw [h3]
        decide
      · have h4 : (0 + 256 * q - 1) % 256 = 255 := by omega
        have h5 : (0 + 256 * q - 1) / 256 = q - 1 := by omega
        rw [h4, h5, Nat.and_comm (q - 1) q]
        have h6 : c8 0 = 0 := by decide
        have h7 : 255 &&& 0 = 0 := by decide
        rw [h6, h7]
        omega
    · have h4 : (a + 256 * q - 1) % 256 = a - 1 := by omega
      have h5 : (a + 256 * q - 1) / 256 = q := by omega
      rw [h4, h5, Nat.and_comm (a - 1) a, Nat.and_self]
      omega
theorem us_nat (x : Int32) (n : Int32) (k : Nat) (hn : n.toUInt32 &&& Int32.toUInt32 31 = UInt32.ofNat k) (hk : k < 32) : (us32 x n).toBitVec.toNat = x.toBitVec.toNat / 2 ^ k := by
  have : (us32 x n).toBitVec = x.toBitVec >>> k := by
    unfold us32
    rw [hn]
    have h1 : (x.toUInt32 >>> UInt32.ofNat k).toInt32.toBitVec = (x.toUInt32 >>> UInt32.ofNat k).toBitVec := rfl
    rw [h1, UInt32.toBitVec_shiftRight]
    have h2 : ((UInt32.ofNat k).toBitVec % 32).toNat = k := by
      rw [BitVec.toNat_umod]
      have : (UInt32.ofNat k).toBitVec.toNat = k % 2 ^ 32 := by simp
      rw [this]
      simp
      omega
    rw [BitVec.ushiftRight_eq', h2]
    rfl
  rw [this, BitVec.toNat_ushiftRight, Nat.shiftRight_eq_div_pow]
theorem fBC_nat (x : Int32) : (fBC x).toBitVec.toNat = tc8 4 x.toBitVec.toNat := by
  have hx := x.toBitVec.isLt
  generalize hX : x.toBitVec.toNat = X at hx
  have h1 : (fB1 x).toBitVec.toNat = bS1 1431655765 X := by
    have e : (fB1 x).toBitVec = x.toBitVec - ((us32 x 1).toBitVec &&& 1431655765#32) := rfl
    rw [e, BitVec.toNat_sub, BitVec.toNat_and, us_nat x 1 1 rfl (by decide), hX]
    have h2 : (X / 2 ^ 1 &&& 1431655765) ≤ X / 2 := Nat.and_le_left
    show (2 ^ 32 - (X / 2 &&& 1431655765) + X) % 2 ^ 32 = X - (X / 2 &&& 1431655765)
    have h3 : (X / 2 &&& 1431655765) ≤ X / 2 := Nat.and_le_left
    generalize (X / 2 &&& 1431655765) = t at h3 ⊢
    omega
  have b1 := (fB1 x).toBitVec.isLt
  generalize hY : (fB1 x).toBitVec.toNat = Y at h1 b1
  have h2 : (fB2 (fB1 x)).toBitVec.toNat = bS2 858993459 Y := by
    have e : (fB2 (fB1 x)).toBitVec = ((fB1 x).toBitVec &&& 858993459#32) + ((us32 (fB1 x) 2).toBitVec &&& 858993459#32) := rfl
    rw [e, BitVec.toNat_add, BitVec.toNat_and, BitVec.toNat_and, us_nat _ 2 2 rfl (by decide), hY]
    have h2 : (Y / 2 ^ 2 &&& 858993459) ≤ 858993459 := Nat.and_le_right
    have h3 : (Y &&& 858993459) ≤ 858993459 := Nat.and_le_right
    show ((Y &&& 858993459) + (Y / 4 &&& 858993459)) % 2 ^ 32 = (Y &&& 858993459) + (Y / 4 &&& 858993459)
    have h2 : (Y / 4 &&& 858993459) ≤ 858993459 := Nat.and_le_right
    generalize (Y / 4 &&& 858993459) = t at h2 ⊢
    generalize (Y &&& 858993459) = u at h3 ⊢
    omega
  have b2 : (fB2 (fB1 x)).toBitVec.toNat ≤ 1717986918 := by
    rw [h2]
    have h2 : (Y / 4 &&& 858993459) ≤ 858993459 := Nat.and_le_right
    have h3 : (Y &&& 858993459) ≤ 858993459 := Nat.and_le_right
    unfold bS2
    omega
  generalize hZ : (fB2 (fB1 x)).toBitVec.toNat = Z at h2 b2
  have h3 : (fB3 (fB2 (fB1 x))).toBitVec.toNat = bS3 252645135 Z := by
    have e : (fB3 (fB2 (fB1 x))).toBitVec = ((fB2 (fB1 x)).toBitVec + (us32 (fB2 (fB1 x)) 4).toBitVec) &&& 252645135#32 := rfl
    rw [e, BitVec.toNat_and, BitVec.toNat_add, us_nat _ 4 4 rfl (by decide), hZ]
    show (Z + Z / 2 ^ 4) % 2 ^ 32 &&& 252645135 = (Z + Z / 16) &&& 252645135
    rw [Nat.mod_eq_of_lt (by omega)]
  rw [h2, h1, bS_all X hx] at h3
  obtain ⟨_, _, _, p0, _⟩ := c8_s2 (X % 256) (by omega)
  obtain ⟨_, _, _, p1, _⟩ := c8_s2 (X / 256 % 256) (by omega)
  obtain ⟨_, _, _, p2, _⟩ := c8_s2 (X / 65536 % 256) (by omega)
  obtain ⟨_, _, _, p3, _⟩ := c8_s2 (X / 16777216) (by omega)
  have ht : tc8 4 X = c8 (X % 256) + (c8 (X / 256 % 256) + (c8 (X / 65536 % 256) + c8 (X / 16777216))) := by
    simp only [tc8]
    rw [show X / 256 / 256 = X / 65536 from by omega, show X / 65536 / 256 = X / 16777216 from by omega, show X / 16777216 % 256 = X / 16777216 from by omega]
    omega
  rw [ht]
  generalize c8 (X % 256) = a0 at *
  generalize c8 (X / 256 % 256) = a1 at *
  generalize c8 (X / 65536 % 256) = a2 at *
  generalize c8 (X / 16777216) = a3 at *
  generalize hW : (fB3 (fB2 (fB1 x))).toBitVec.toNat = W at h3
  have h4 : (fB4 (fB3 (fB2 (fB1 x)))).toBitVec.toNat = W + W / 256 := by
    have e : (fB4 (fB3 (fB2 (fB1 x)))).toBitVec = (fB3 (fB2 (fB1 x))).toBitVec + (us32 (fB3 (fB2 (fB1 x))) 8).toBitVec := rfl
    rw [e, BitVec.toNat_add, us_nat _ 8 8 rfl (by decide), hW]
    omega
  have h5 : (fB5 (fB4 (fB3 (fB2 (fB1 x))))).toBitVec.toNat = (W + W / 256) + (W + W / 256) / 65536 := by
    have e : (fB5 (fB4 (fB3 (fB2 (fB1 x))))).toBitVec = (fB4 (fB3 (fB2 (fB1 x)))).toBitVec + (us32 (fB4 (fB3 (fB2 (fB1 x)))) 16).toBitVec := rfl
    rw [e, BitVec.toNat_add, us_nat _ 16 16 rfl (by decide), h4]
    omega
  have h6 : (fBC x).toBitVec.toNat = ((W + W / 256) + (W + W / 256) / 65536) % 64 := by
    have e : (fBC x).toBitVec = (fB5 (fB4 (fB3 (fB2 (fB1 x))))).toBitVec &&& 63#32 := rfl
    rw [e, BitVec.toNat_and, h5]
    exact Nat.and_two_pow_sub_one_eq_mod _ 6
  rw [h6]
  have w1 : W / 256 = a1 + 256 * (a2 + 256 * a3) := by clear h6 h5 h4 hW ht; omega
  have w2 : (W + W / 256) / 65536 = a2 + a3 + 256 * a3 := by rw [w1]; clear h6 h5 h4 hW ht; omega
  rw [w2, w1, h3]
  clear h6 h5 h4 hW ht w1 w2 h3
  omega
theorem fBC_two {v : Int32} (h0 : 0 ≤ v) : 2 ≤ fBC v ↔ ¬ v &&& (v - 1) = 0 := by
  have hx := v.toBitVec.isLt
  have h1 := fBC_nat v
  have ht := tc8_spec 4 v.toBitVec.toNat hx
  have hb : tc8 4 v.toBitVec.toNat ≤ 32 := by
    have := fun a (h : a < 256) => (c8_s2 a h).2.2.2.1
    simp only [tc8]
    have g0 := this (v.toBitVec.toNat % 256) (by omega)
    have g1 := this (v.toBitVec.toNat / 256 % 256) (by omega)
    have g2 := this (v.toBitVec.toNat / 256 / 256 % 256) (by omega)
    have g3 := this (v.toBitVec.toNat / 256 / 256 / 256 % 256) (by omega)
    omega
  have hi : (fBC v).toInt = (tc8 4 v.toBitVec.toNat : Int) := by
    have e : (fBC v).toInt = (fBC v).toBitVec.toInt := rfl
    rw [e, BitVec.toInt_eq_toNat_cond, if_pos (by omega), h1]
  have h2 : (2 : Int32) ≤ fBC v ↔ 2 ≤ tc8 4 v.toBitVec.toNat := by
    rw [Int32.le_iff_toInt_le, hi, show (2 : Int32).toInt = 2 from rfl]
    omega
  rw [h2, ht.2]
  have h3 : (v &&& (v - 1) = 0) ↔ (v.toBitVec.toNat &&& (v.toBitVec.toNat - 1) = 0) := by
    have hv := tN h0
    have hlt := Int32.toInt_lt v
    rcases Nat.eq_zero_or_pos v.toBitVec.toNat with hz | hz
    · have hv0 : v = 0 := Int32.toInt_inj.mp (by rw [hv, hz]; rfl)
      rw [hz, hv0]
      decide
    · have e1 : (v &&& (v - 1)).toBitVec.toNat = v.toBitVec.toNat &&& (v.toBitVec.toNat - 1) := by
        have e : (v &&& (v - 1)).toBitVec = v.toBitVec &&& (v.toBitVec - 1#32) := rfl
        rw [e, BitVec.toNat_and, BitVec.toNat_sub]
        congr 1
        show (2 ^ 32 - 1 % 2 ^ 32 + v.toBitVec.toNat) % 2 ^ 32 = _
        omega
      rw [← e1]
      constructor
      · intro h; rw [h]; rfl
      · intro h
        apply Int32.toBitVec_inj.mp
        exact BitVec.eq_of_toNat_eq (by rw [h]; rfl)
  rw [h3]
