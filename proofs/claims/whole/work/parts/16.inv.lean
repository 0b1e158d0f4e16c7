/-! WHAT CLASS AND REFERENCE HAVE IN COMMON BETWEEN CALLS. The class's cells are 2 .. 64 and from 96 on, the reference's 65 .. 95. -/
/-- stones: how many, lines, places -/
def RSt (n n' : Int32) (l p l' p' : Nat → Int32) : Prop := n' = n ∧ 0 ≤ n ∧ n ≤ 12 ∧ ∀ x : Int32, 0 ≤ x → x < n → l' x.toNatClampNeg = l x.toNatClampNeg ∧ 1 ≤ l x.toNatClampNeg ∧ l x.toNatClampNeg ≤ 4 ∧ p' x.toNatClampNeg = p x.toNatClampNeg ∧ 1 ≤ p x.toNatClampNeg ∧ p x.toNatClampNeg ≤ 24
/-- hands: how many, ranks -/
def RHa (n n' : Int32) (r r' : Nat → Int32) : Prop := n' = n ∧ 0 ≤ n ∧ n ≤ 6 ∧ ∀ x : Int32, 0 ≤ x → x < n → r' x.toNatClampNeg = r x.toNatClampNeg ∧ 0 ≤ r x.toNatClampNeg ∧ r x.toNatClampNeg ≤ 9
/-- one reading: packed, and as kind (one above) and may -/
def rd1 (t k y : Int32) : Prop := (t = 0 ∧ k = 0) ∨ (1 ≤ k ∧ k ≤ 6 ∧ 0 ≤ y ∧ y ≤ 134217727 ∧ t = k * 134217728 + y ∧ ((k = 1 ∨ k = 2 ∨ k = 6) → ∃ v : Int32, 0 ≤ v ∧ v < 27 ∧ y = 1 <<< v))
def RTo (t k y : Nat → Int32) : Prop := ∀ x : Nat, x < 6912 → rd1 (t x) (k x) (y x)
/-- the tape -/
def RTp (n n' : Int32) (b b' : Nat → Int32) : Prop := n' = n ∧ 0 ≤ n ∧ n ≤ 200 ∧ ∀ x : Int32, 0 ≤ x → x < n → b' x.toNatClampNeg = b x.toNatClampNeg &&& 255 ∧ 0 ≤ b' x.toNatClampNeg ∧ b' x.toNatClampNeg ≤ 255
/-- edges and joins: a mark's place is one in both; neighbours 2s, 2s+1 are left, right of s -/
def REd (n : Int32) (l : Nat → Int32) (tl tl' : Int32) (mk mk' nb rt lf : Nat → Int32) : Prop :=
  tl' = tl ∧ 0 ≤ tl ∧ tl ≤ 3 ∧ (∀ j : Nat, j < 96 → mk' j = mk j ∧ 0 ≤ mk j ∧ mk j ≤ 9) ∧
  (∀ x : Int32, 0 ≤ x → x < n → nb (x * 2).toNatClampNeg = lf x.toNatClampNeg ∧ nb (x * 2 + 1).toNatClampNeg = rt x.toNatClampNeg ∧ -1 ≤ lf x.toNatClampNeg ∧ lf x.toNatClampNeg < n ∧ -1 ≤ rt x.toNatClampNeg ∧ rt x.toNatClampNeg < n ∧
    (0 ≤ rt x.toNatClampNeg → lf (rt x.toNatClampNeg).toNatClampNeg = x ∧ l (rt x.toNatClampNeg).toNatClampNeg = l x.toNatClampNeg) ∧ (0 ≤ lf x.toNatClampNeg → rt (lf x.toNatClampNeg).toNatClampNeg = x)) ∧
  (∀ x : Int32, n ≤ x → x < 12 → nb (x * 2).toNatClampNeg = -1 ∧ nb (x * 2 + 1).toNatClampNeg = -1) ∧
  ∃ ch : Nat → Nat, ∀ x : Int32, 0 ≤ x → x < n → 0 ≤ rt x.toNatClampNeg → ch x.toNatClampNeg = ch (rt x.toNatClampNeg).toNatClampNeg + 1
/-- years and bounds -/
def RDa (n b b' : Int32) (ls ms ls' ms' ba bb bd ba' bb' bd' : Nat → Int32) : Prop :=
  b' = b ∧ 0 ≤ b ∧ b ≤ 20 ∧ (∀ x : Int32, 0 ≤ x → x < n → ls' x.toNatClampNeg = ls x.toNatClampNeg ∧ ms' x.toNatClampNeg = ms x.toNatClampNeg ∧ -999 ≤ ls x.toNatClampNeg ∧ ls x.toNatClampNeg ≤ ms x.toNatClampNeg ∧ ms x.toNatClampNeg ≤ 999) ∧
  (∀ x : Int32, n ≤ x → x < 12 → ls x.toNatClampNeg = -999 ∧ ms x.toNatClampNeg = 999) ∧
  (∀ x : Int32, 0 ≤ x → x < b → ba' x.toNatClampNeg = ba x.toNatClampNeg ∧ bb' x.toNatClampNeg = bb x.toNatClampNeg ∧ bd' x.toNatClampNeg = bd x.toNatClampNeg ∧ 0 ≤ ba x.toNatClampNeg ∧ ba x.toNatClampNeg < n ∧ 0 ≤ bb x.toNatClampNeg ∧ bb x.toNatClampNeg < n ∧ -200 ≤ bd x.toNatClampNeg ∧ bd x.toNatClampNeg ≤ 200)
/-- persons -/
def RPe (n p p' : Int32) (nm fa nm' fa' : Nat → Int64) (st st' : Nat → Int32) : Prop :=
  p' = p ∧ 0 ≤ p ∧ p ≤ 12 ∧ ∀ x : Int32, 0 ≤ x → x < p → nm' x.toNatClampNeg = nm x.toNatClampNeg ∧ fa' x.toNatClampNeg = fa x.toNatClampNeg ∧ ¬ nm x.toNatClampNeg = 0 ∧ st' x.toNatClampNeg = st x.toNatClampNeg ∧ 0 ≤ st x.toNatClampNeg ∧ st x.toNatClampNeg < n
/-- trays -/
def RTr (sz sz' by_ by_' : Nat → Int32) : Prop :=
  (∀ x : Int32, 0 ≤ x → x < 4 → sz' x.toNatClampNeg = sz x.toNatClampNeg ∧ -1 ≤ sz x.toNatClampNeg ∧ sz x.toNatClampNeg ≤ 40) ∧ ∀ j : Nat, j < 160 → by_' j = by_ j &&& 255 ∧ 0 ≤ by_' j ∧ by_' j ≤ 255
/-- a text: two longs of twelve letters of five bits, and a size with its letters -/
def tx5 (h : Int64) (k : Nat) : Nat := (h.toInt.toNat / 2 ^ (5 * (11 - k))) % 32
def txt1 (h t : Int64) (sz : Int32) (le : Nat → Int32) : Prop :=
  0 ≤ h ∧ h.toInt < 2 ^ 60 ∧ 0 ≤ t ∧ t.toInt < 2 ^ 60 ∧ 0 ≤ sz ∧ sz ≤ 24 ∧ ∀ k : Nat, k < 24 → (if k < 12 then tx5 h k else tx5 t (k - 12)) = (if nI k < sz then (le k).toInt.toNat + 1 else 0) ∧ (nI k < sz → 0 ≤ le k ∧ le k ≤ 26)
/-- formulas and their texts -/
def RTx (z : Nat) (N : Nat → Nat) (I : Nat → Nat → Int32) (L : Nat → Nat → Int64) (R : Nat → Nat → Option Nat) : Prop :=
  I 65 2 = I 2 5 ∧ 0 ≤ I 2 5 ∧ I 2 5 ≤ 8 ∧ z = 94 + 2 * (I 2 5).toNatClampNeg ∧
  ∀ f : Nat, f < (I 2 5).toNatClampNeg → R 39 f = some (96 + 2 * f) ∧ I 76 f = I (96 + 2 * f) 1 ∧ 0 ≤ I 76 f ∧ I 76 f ≤ 200 ∧ N (97 + 2 * f) = 2 * (I 76 f).toNatClampNeg ∧
    ∀ i : Nat, i < (I 76 f).toNatClampNeg → txt1 (L (97 + 2 * f) (2 * i)) (L (97 + 2 * f) (2 * i + 1)) (I 75 (200 * f + i)) (fun k => I 74 (24 * (200 * f + i) + k))
/-- the maker's sets: five rows and the spare one in some order, five alls, the word's -/
def RMk (N : Nat → Nat) (R : Nat → Nat → Option Nat) : Prop :=
  (∀ i : Nat, i < 5 → R 13 i = some (21 + 4 * i)) ∧ (∃ g : Nat → Nat, (∀ i : Nat, i < 5 → R 12 i = some (g i)) ∧ R 11 4 = some (g 5) ∧ (∀ i, i < 6 → g i ∈ [17, 19, 23, 27, 31, 35]) ∧ ∀ i j, i < 6 → j < 6 → g i = g j → i = j) ∧
  N 16 = 2 ∧ ∀ k ∈ [17, 19, 23, 27, 31, 35, 21, 25, 29, 33, 37], N (k + 1) = 400
def qInv (M : qM) : Prop :=
  qStat M ∧ RSt (M.2.2.1 3 2) (M.2.2.1 65 0) (M.2.2.1 4) (M.2.2.1 5) (M.2.2.1 66) (M.2.2.1 67) ∧ RHa (M.2.2.1 6 2) (M.2.2.1 65 1) (M.2.2.1 7) (M.2.2.1 68) ∧ RTo (M.2.2.1 8) (M.2.2.1 70) (M.2.2.1 71) ∧ RTp (M.2.2.1 9 1) (M.2.2.1 65 6) (M.2.2.1 10) (M.2.2.1 69) ∧
  REd (M.2.2.1 3 2) (M.2.2.1 4) (M.2.2.1 43 3) (M.2.2.1 65 5) (M.2.2.1 44) (M.2.2.1 77) (M.2.2.1 45) (M.2.2.1 78) (M.2.2.1 79) ∧
  RDa (M.2.2.1 3 2) (M.2.2.1 46 7) (M.2.2.1 65 4) (M.2.2.1 47) (M.2.2.1 48) (M.2.2.1 80) (M.2.2.1 81) (M.2.2.1 51) (M.2.2.1 52) (M.2.2.1 53) (M.2.2.1 84) (M.2.2.1 85) (M.2.2.1 86) ∧
  RPe (M.2.2.1 3 2) (M.2.2.1 54 5) (M.2.2.1 65 3) (M.2.2.2.1 55) (M.2.2.2.1 56) (M.2.2.2.1 87) (M.2.2.2.1 88) (M.2.2.1 57) (M.2.2.1 89) ∧
  RTr (M.2.2.1 64) (M.2.2.1 94) (M.2.2.1 63) (M.2.2.1 95) ∧ RTx M.1 M.2.1 M.2.2.1 M.2.2.2.1 M.2.2.2.2 ∧ RMk M.2.1 M.2.2.2.2 ∧ M.2.2.1 1 = qKA
/-- a call of the class, then the same of the reference: both answer alike, and what they have in common holds again -/
def qOp (j1 j2 : Nat) (as : List Value) (M : qM) : Prop :=
  qWP 30 j1 (.ref 2 :: as) M (fun v M1 => ∃ r : Int32, v = some (.int r) ∧ (M1.2.2.1 0 = M.2.2.1 0 ∧ M1.2.1 0 = M.2.1 0 ∧ qStat M1) ∧ qWP 30 j2 (.ref 65 :: as) M1 (fun v2 M2 => v2 = some (.int r) ∧ (M2.2.2.1 0 = M.2.2.1 0 ∧ M2.2.1 0 = M.2.1 0) ∧ qInv M2))
