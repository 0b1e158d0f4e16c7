/-! formulas: the class's sets -/
/-- a set's handles -/
def stS (z : Nat) (N : Nat → Nat) (h r : Nat) : Prop := qK h = 9 ∧ qK (h + 1) = 15 ∧ qSz (h + 1) = none ∧ h + 1 < z + 2 ∧ N (h + 1) = 2 * r ∧ r ≤ 200
/-- what it holds -/
def hsL (I : Nat → Nat → Int32) (L : Nat → Nat → Int64) (h : Nat) (l : List Nat) : Prop := I h 1 = nI l.length ∧ rowL (L (h + 1)) l ∧ srt l
theorem qWP_as {d j : Nat} {as as' : List Value} {M : qM} {Q : qP} (h : as = as') (hq : qWP d j as' M Q) : qWP d j as M Q := h ▸ hq
theorem addI1 {f : Nat → List Nat → List Nat} {r K : Nat} {l : List Nat} : addI f r [some K] l = addG f r K l := by
  rw [addI]
  cases addG f r K l <;> rfl
theorem addI_nd {f : Nat → List Nat → List Nat} {r : Nat} {l : List Nat} : addI f r [none] l = none := rfl
theorem addI_ap {f : Nat → List Nat → List Nat} {r : Nat} : ∀ (is js : List (Option Nat)) (l : List Nat), addI f r (is ++ js) l = (addI f r is l).bind (addI f r js) := by
  intro is
  induction is with
  | nil => intro js l; rfl
  | cons i is ih =>
    intro js l
    cases i with
    | none => rfl
    | some K =>
      rw [List.cons_append, addI, addI]
      cases addG f r K l with
      | none => rfl
      | some x => exact ih js x
def fBL (x : Int64) : Int32 := (Int64.toInt32 ((((((((x - ((((x).toUInt64 >>> ((Int32.toInt64 1).toUInt64 &&& Int64.toUInt64 63)).toInt64) &&& 6148914691236517205)) &&& 3689348814741910323) + ((((x - ((((x).toUInt64 >>> ((Int32.toInt64 1).toUInt64 &&& Int64.toUInt64 63)).toInt64) &&& 6148914691236517205)).toUInt64 >>> ((Int32.toInt64 2).toUInt64 &&& Int64.toUInt64 63)).toInt64) &&& 3689348814741910323)) + (((((x - ((((x).toUInt64 >>> ((Int32.toInt64 1).toUInt64 &&& Int64.toUInt64 63)).toInt64) &&& 6148914691236517205)) &&& 3689348814741910323) + ((((x - ((((x).toUInt64 >>> ((Int32.toInt64 1).toUInt64 &&& Int64.toUInt64 63)).toInt64) &&& 6148914691236517205)).toUInt64 >>> ((Int32.toInt64 2).toUInt64 &&& Int64.toUInt64 63)).toInt64) &&& 3689348814741910323)).toUInt64 >>> ((Int32.toInt64 4).toUInt64 &&& Int64.toUInt64 63)).toInt64)) &&& 1085102592571150095) + (((((((x - ((((x).toUInt64 >>> ((Int32.toInt64 1).toUInt64 &&& Int64.toUInt64 63)).toInt64) &&& 6148914691236517205)) &&& 3689348814741910323) + ((((x - ((((x).toUInt64 >>> ((Int32.toInt64 1).toUInt64 &&& Int64.toUInt64 63)).toInt64) &&& 6148914691236517205)).toUInt64 >>> ((Int32.toInt64 2).toUInt64 &&& Int64.toUInt64 63)).toInt64) &&& 3689348814741910323)) + (((((x - ((((x).toUInt64 >>> ((Int32.toInt64 1).toUInt64 &&& Int64.toUInt64 63)).toInt64) &&& 6148914691236517205)) &&& 3689348814741910323) + ((((x - ((((x).toUInt64 >>> ((Int32.toInt64 1).toUInt64 &&& Int64.toUInt64 63)).toInt64) &&& 6148914691236517205)).toUInt64 >>> ((Int32.toInt64 2).toUInt64 &&& Int64.toUInt64 63)).toInt64) &&& 3689348814741910323)).toUInt64 >>> ((Int32.toInt64 4).toUInt64 &&& Int64.toUInt64 63)).toInt64)) &&& 1085102592571150095).toUInt64 >>> ((Int32.toInt64 8).toUInt64 &&& Int64.toUInt64 63)).toInt64)) + ((((((((x - ((((x).toUInt64 >>> ((Int32.toInt64 1).toUInt64 &&& Int64.toUInt64 63)).toInt64) &&& 6148914691236517205)) &&& 3689348814741910323) + ((((x - ((((x).toUInt64 >>> ((Int32.toInt64 1).toUInt64 &&& Int64.toUInt64 63)).toInt64) &&& 6148914691236517205)).toUInt64 >>> ((Int32.toInt64 2).toUInt64 &&& Int64.toUInt64 63)).toInt64) &&& 3689348814741910323)) + (((((x - ((((x).toUInt64 >>> ((Int32.toInt64 1).toUInt64 &&& Int64.toUInt64 63)).toInt64) &&& 6148914691236517205)) &&& 3689348814741910323) + ((((x - ((((x).toUInt64 >>> ((Int32.toInt64 1).toUInt64 &&& Int64.toUInt64 63)).toInt64) &&& 6148914691236517205)).toUInt64 >>> ((Int32.toInt64 2).toUInt64 &&& Int64.toUInt64 63)).toInt64) &&& 3689348814741910323)).toUInt64 >>> ((Int32.toInt64 4).toUInt64 &&& Int64.toUInt64 63)).toInt64)) &&& 1085102592571150095) + (((((((x - ((((x).toUInt64 >>> ((Int32.toInt64 1).toUInt64 &&& Int64.toUInt64 63)).toInt64) &&& 6148914691236517205)) &&& 3689348814741910323) + ((((x - ((((x).toUInt64 >>> ((Int32.toInt64 1).toUInt64 &&& Int64.toUInt64 63)).toInt64) &&& 6148914691236517205)).toUInt64 >>> ((Int32.toInt64 2).toUInt64 &&& Int64.toUInt64 63)).toInt64) &&& 3689348814741910323)) + (((((x - ((((x).toUInt64 >>> ((Int32.toInt64 1).toUInt64 &&& Int64.toUInt64 63)).toInt64) &&& 6148914691236517205)) &&& 3689348814741910323) + ((((x - ((((x).toUInt64 >>> ((Int32.toInt64 1).toUInt64 &&& Int64.toUInt64 63)).toInt64) &&& 6148914691236517205)).toUInt64 >>> ((Int32.toInt64 2).toUInt64 &&& Int64.toUInt64 63)).toInt64) &&& 3689348814741910323)).toUInt64 >>> ((Int32.toInt64 4).toUInt64 &&& Int64.toUInt64 63)).toInt64)) &&& 1085102592571150095).toUInt64 >>> ((Int32.toInt64 8).toUInt64 &&& Int64.toUInt64 63)).toInt64)).toUInt64 >>> ((Int32.toInt64 16).toUInt64 &&& Int64.toUInt64 63)).toInt64)) + (((((((((x - ((((x).toUInt64 >>> ((Int32.toInt64 1).toUInt64 &&& Int64.toUInt64 63)).toInt64) &&& 6148914691236517205)) &&& 3689348814741910323) + ((((x - ((((x).toUInt64 >>> ((Int32.toInt64 1).toUInt64 &&& Int64.toUInt64 63)).toInt64) &&& 6148914691236517205)).toUInt64 >>> ((Int32.toInt64 2).toUInt64 &&& Int64.toUInt64 63)).toInt64) &&& 3689348814741910323)) + (((((x - ((((x).toUInt64 >>> ((Int32.toInt64 1).toUInt64 &&& Int64.toUInt64 63)).toInt64) &&& 6148914691236517205)) &&& 3689348814741910323) + ((((x - ((((x).toUInt64 >>> ((Int32.toInt64 1).toUInt64 &&& Int64.toUInt64 63)).toInt64) &&& 6148914691236517205)).toUInt64 >>> ((Int32.toInt64 2).toUInt64 &&& Int64.toUInt64 63)).toInt64) &&& 3689348814741910323)).toUInt64 >>> ((Int32.toInt64 4).toUInt64 &&& Int64.toUInt64 63)).toInt64)) &&& 1085102592571150095) + (((((((x - ((((x).toUInt64 >>> ((Int32.toInt64 1).toUInt64 &&& Int64.toUInt64 63)).toInt64) &&& 6148914691236517205)) &&& 3689348814741910323) + ((((x - ((((x).toUInt64 >>> ((Int32.toInt64 1).toUInt64 &&& Int64.toUInt64 63)).toInt64) &&& 6148914691236517205)).toUInt64 >>> ((Int32.toInt64 2).toUInt64 &&& Int64.toUInt64 63)).toInt64) &&& 3689348814741910323)) + (((((x - ((((x).toUInt64 >>> ((Int32.toInt64 1).toUInt64 &&& Int64.toUInt64 63)).toInt64) &&& 6148914691236517205)) &&& 3689348814741910323) + ((((x - ((((x).toUInt64 >>> ((Int32.toInt64 1).toUInt64 &&& Int64.toUInt64 63)).toInt64) &&& 6148914691236517205)).toUInt64 >>> ((Int32.toInt64 2).toUInt64 &&& Int64.toUInt64 63)).toInt64) &&& 3689348814741910323)).toUInt64 >>> ((Int32.toInt64 4).toUInt64 &&& Int64.toUInt64 63)).toInt64)) &&& 1085102592571150095).toUInt64 >>> ((Int32.toInt64 8).toUInt64 &&& Int64.toUInt64 63)).toInt64)) + ((((((((x - ((((x).toUInt64 >>> ((Int32.toInt64 1).toUInt64 &&& Int64.toUInt64 63)).toInt64) &&& 6148914691236517205)) &&& 3689348814741910323) + ((((x - ((((x).toUInt64 >>> ((Int32.toInt64 1).toUInt64 &&& Int64.toUInt64 63)).toInt64) &&& 6148914691236517205)).toUInt64 >>> ((Int32.toInt64 2).toUInt64 &&& Int64.toUInt64 63)).toInt64) &&& 3689348814741910323)) + (((((x - ((((x).toUInt64 >>> ((Int32.toInt64 1).toUInt64 &&& Int64.toUInt64 63)).toInt64) &&& 6148914691236517205)) &&& 3689348814741910323) + ((((x - ((((x).toUInt64 >>> ((Int32.toInt64 1).toUInt64 &&& Int64.toUInt64 63)).toInt64) &&& 6148914691236517205)).toUInt64 >>> ((Int32.toInt64 2).toUInt64 &&& Int64.toUInt64 63)).toInt64) &&& 3689348814741910323)).toUInt64 >>> ((Int32.toInt64 4).toUInt64 &&& Int64.toUInt64 63)).toInt64)) &&& 1085102592571150095) + (((((((x - ((((x).toUInt64 >>> ((Int32.toInt64 1).toUInt64 &&& Int64.toUInt64 63)).toInt64) &&& 6148914691236517205)) &&& 3689348814741910323) + ((((x - ((((x).toUInt64 >>> ((Int32.toInt64 1).toUInt64 &&& Int64.toUInt64 63)).toInt64) &&& 6148914691236517205)).toUInt64 >>> ((Int32.toInt64 2).toUInt64 &&& Int64.toUInt64 63)).toInt64) &&& 3689348814741910323)) + (((((x - ((((x).toUInt64 >>> ((Int32.toInt64 1).toUInt64 &&& Int64.toUInt64 63)).toInt64) &&& 6148914691236517205)) &&& 3689348814741910323) + ((((x - ((((x).toUInt64 >>> ((Int32.toInt64 1).toUInt64 &&& Int64.toUInt64 63)).toInt64) &&& 6148914691236517205)).toUInt64 >>> ((Int32.toInt64 2).toUInt64 &&& Int64.toUInt64 63)).toInt64) &&& 3689348814741910323)).toUInt64 >>> ((Int32.toInt64 4).toUInt64 &&& Int64.toUInt64 63)).toInt64)) &&& 1085102592571150095).toUInt64 >>> ((Int32.toInt64 8).toUInt64 &&& Int64.toUInt64 63)).toInt64)).toUInt64 >>> ((Int32.toInt64 16).toUInt64 &&& Int64.toUInt64 63)).toInt64)).toUInt64 >>> ((Int32.toInt64 32).toUInt64 &&& Int64.toUInt64 63)).toInt64))) &&& 127
theorem fBL_b : ∀ b : Nat, b < 61 → fBL (lN (2 ^ b) - 1) = nI b := by decide +kernel
theorem c_J13_bitCount_95d88 {d z : Nat} {N : Nat → Nat} {I : Nat → Nat → Int32} {L : Nat → Nat → Int64} {R : Nat → Nat → Option Nat} {Q : qP} {x : Int64}  (h : ∀ v : Int32, v = fBL x → Q (some (.int v)) (z, N, I, L, R)) : qWP (d + 1) 247 [.long x] (z, N, I, L, R) Q := by
  refine qWP_of m_J13_bitCount_95d88 rfl rfl [(0, .long x)] rfl ?_
  refine qJ_run (qWP_mono _) [] 400 ?_
  change Q (some (.int ((Int64.toInt32 ((((((((x - ((((x).toUInt64 >>> ((Int32.toInt64 1).toUInt64 &&& Int64.toUInt64 63)).toInt64) &&& 6148914691236517205)) &&& 3689348814741910323) + ((((x - ((((x).toUInt64 >>> ((Int32.toInt64 1).toUInt64 &&& Int64.toUInt64 63)).toInt64) &&& 6148914691236517205)).toUInt64 >>> ((Int32.toInt64 2).toUInt64 &&& Int64.toUInt64 63)).toInt64) &&& 3689348814741910323)) + (((((x - ((((x).toUInt64 >>> ((Int32.toInt64 1).toUInt64 &&& Int64.toUInt64 63)).toInt64) &&& 6148914691236517205)) &&& 3689348814741910323) + ((((x - ((((x).toUInt64 >>> ((Int32.toInt64 1).toUInt64 &&& Int64.toUInt64 63)).toInt64) &&& 6148914691236517205)).toUInt64 >>> ((Int32.toInt64 2).toUInt64 &&& Int64.toUInt64 63)).toInt64) &&& 3689348814741910323)).toUInt64 >>> ((Int32.toInt64 4).toUInt64 &&& Int64.toUInt64 63)).toInt64)) &&& 1085102592571150095) + (((((((x - ((((x).toUInt64 >>> ((Int32.toInt64 1).toUInt64 &&& Int64.toUInt64 63)).toInt64) &&& 6148914691236517205)) &&& 3689348814741910323) + ((((x - ((((x).toUInt64 >>> ((Int32.toInt64 1).toUInt64 &&& Int64.toUInt64 63)).toInt64) &&& 6148914691236517205)).toUInt64 >>> ((Int32.toInt64 2).toUInt64 &&& Int64.toUInt64 63)).toInt64) &&& 3689348814741910323)) + (((((x - ((((x).toUInt64 >>> ((Int32.toInt64 1).toUInt64 &&& Int64.toUInt64 63)).toInt64) &&& 6148914691236517205)) &&& 3689348814741910323) + ((((x - ((((x).toUInt64 >>> ((Int32.toInt64 1).toUInt64 &&& Int64.toUInt64 63)).toInt64) &&& 6148914691236517205)).toUInt64 >>> ((Int32.toInt64 2).toUInt64 &&& Int64.toUInt64 63)).toInt64) &&& 3689348814741910323)).toUInt64 >>> ((Int32.toInt64 4).toUInt64 &&& Int64.toUInt64 63)).toInt64)) &&& 1085102592571150095).toUInt64 >>> ((Int32.toInt64 8).toUInt64 &&& Int64.toUInt64 63)).toInt64)) + ((((((((x - ((((x).toUInt64 >>> ((Int32.toInt64 1).toUInt64 &&& Int64.toUInt64 63)).toInt64) &&& 6148914691236517205)) &&& 3689348814741910323) + ((((x - ((((x).toUInt64 >>> ((Int32.toInt64 1).toUInt64 &&& Int64.toUInt64 63)).toInt64) &&& 6148914691236517205)).toUInt64 >>> ((Int32.toInt64 2).toUInt64 &&& Int64.toUInt64 63)).toInt64) &&& 3689348814741910323)) + (((((x - ((((x).toUInt64 >>> ((Int32.toInt64 1).toUInt64 &&& Int64.toUInt64 63)).toInt64) &&& 6148914691236517205)) &&& 3689348814741910323) + ((((x - ((((x).toUInt64 >>> ((Int32.toInt64 1).toUInt64 &&& Int64.toUInt64 63)).toInt64) &&& 6148914691236517205)).toUInt64 >>> ((Int32.toInt64 2).toUInt64 &&& Int64.toUInt64 63)).toInt64) &&& 3689348814741910323)).toUInt64 >>> ((Int32.toInt64 4).toUInt64 &&& Int64.toUInt64 63)).toInt64)) &&& 1085102592571150095) + (((((((x - ((((x).toUInt64 >>> ((Int32.toInt64 1).toUInt64 &&& Int64.toUInt64 63)).toInt64) &&& 6148914691236517205)) &&& 3689348814741910323) + ((((x - ((((x).toUInt64 >>> ((Int32.toInt64 1).toUInt64 &&& Int64.toUInt64 63)).toInt64) &&& 6148914691236517205)).toUInt64 >>> ((Int32.toInt64 2).toUInt64 &&& Int64.toUInt64 63)).toInt64) &&& 3689348814741910323)) + (((((x - ((((x).toUInt64 >>> ((Int32.toInt64 1).toUInt64 &&& Int64.toUInt64 63)).toInt64) &&& 6148914691236517205)) &&& 3689348814741910323) + ((((x - ((((x).toUInt64 >>> ((Int32.toInt64 1).toUInt64 &&& Int64.toUInt64 63)).toInt64) &&& 6148914691236517205)).toUInt64 >>> ((Int32.toInt64 2).toUInt64 &&& Int64.toUInt64 63)).toInt64) &&& 3689348814741910323)).toUInt64 >>> ((Int32.toInt64 4).toUInt64 &&& Int64.toUInt64 63)).toInt64)) &&& 1085102592571150095).toUInt64 >>> ((Int32.toInt64 8).toUInt64 &&& Int64.toUInt64 63)).toInt64)).toUInt64 >>> ((Int32.toInt64 16).toUInt64 &&& Int64.toUInt64 63)).toInt64)) + (((((((((x - ((((x).toUInt64 >>> ((Int32.toInt64 1).toUInt64 &&& Int64.toUInt64 63)).toInt64) &&& 6148914691236517205)) &&& 3689348814741910323) + ((((x - ((((x).toUInt64 >>> ((Int32.toInt64 1).toUInt64 &&& Int64.toUInt64 63)).toInt64) &&& 6148914691236517205)).toUInt64 >>> ((Int32.toInt64 2).toUInt64 &&& Int64.toUInt64 63)).toInt64) &&& 3689348814741910323)) + (((((x - ((((x).toUInt64 >>> ((Int32.toInt64 1).toUInt64 &&& Int64.toUInt64 63)).toInt64) &&& 6148914691236517205)) &&& 3689348814741910323) + ((((x - ((((x).toUInt64 >>> ((Int32.toInt64 1).toUInt64 &&& Int64.toUInt64 63)).toInt64) &&& 6148914691236517205)).toUInt64 >>> ((Int32.toInt64 2).toUInt64 &&& Int64.toUInt64 63)).toInt64) &&& 3689348814741910323)).toUInt64 >>> ((Int32.toInt64 4).toUInt64 &&& Int64.toUInt64 63)).toInt64)) &&& 1085102592571150095) + (((((((x - ((((x).toUInt64 >>> ((Int32.toInt64 1).toUInt64 &&& Int64.toUInt64 63)).toInt64) &&& 6148914691236517205)) &&& 3689348814741910323) + ((((x - ((((x).toUInt64 >>> ((Int32.toInt64 1).toUInt64 &&& Int64.toUInt64 63)).toInt64) &&& 6148914691236517205)).toUInt64 >>> ((Int32.toInt64 2).toUInt64 &&& Int64.toUInt64 63)).toInt64) &&& 3689348814741910323)) + (((((x - ((((x).toUInt64 >>> ((Int32.toInt64 1).toUInt64 &&& Int64.toUInt64 63)).toInt64) &&& 6148914691236517205)) &&& 3689348814741910323) + ((((x - ((((x).toUInt64 >>> ((Int32.toInt64 1).toUInt64 &&& Int64.toUInt64 63)).toInt64) &&& 6148914691236517205)).toUInt64 >>> ((Int32.toInt64 2).toUInt64 &&& Int64.toUInt64 63)).toInt64) &&& 3689348814741910323)).toUInt64 >>> ((Int32.toInt64 4).toUInt64 &&& Int64.toUInt64 63)).toInt64)) &&& 1085102592571150095).toUInt64 >>> ((Int32.toInt64 8).toUInt64 &&& Int64.toUInt64 63)).toInt64)) + ((((((((x - ((((x).toUInt64 >>> ((Int32.toInt64 1).toUInt64 &&& Int64.toUInt64 63)).toInt64) &&& 6148914691236517205)) &&& 3689348814741910323) + ((((x - ((((x).toUInt64 >>> ((Int32.toInt64 1).toUInt64 &&& Int64.toUInt64 63)).toInt64) &&& 6148914691236517205)).toUInt64 >>> ((Int32.toInt64 2).toUInt64 &&& Int64.toUInt64 63)).toInt64) &&& 3689348814741910323)) + (((((x - ((((x).toUInt64 >>> ((Int32.toInt64 1).toUInt64 &&& Int64.toUInt64 63)).toInt64) &&& 6148914691236517205)) &&& 3689348814741910323) + ((((x - ((((x).toUInt64 >>> ((Int32.toInt64 1).toUInt64 &&& Int64.toUInt64 63)).toInt64) &&& 6148914691236517205)).toUInt64 >>> ((Int32.toInt64 2).toUInt64 &&& Int64.toUInt64 63)).toInt64) &&& 3689348814741910323)).toUInt64 >>> ((Int32.toInt64 4).toUInt64 &&& Int64.toUInt64 63)).toInt64)) &&& 1085102592571150095) + (((((((x - ((((x).toUInt64 >>> ((Int32.toInt64 1).toUInt64 &&& Int64.toUInt64 63)).toInt64) &&& 6148914691236517205)) &&& 3689348814741910323) + ((((x - ((((x).toUInt64 >>> ((Int32.toInt64 1).toUInt64 &&& Int64.toUInt64 63)).toInt64) &&& 6148914691236517205)).toUInt64 >>> ((Int32.toInt64 2).toUInt64 &&& Int64.toUInt64 63)).toInt64) &&& 3689348814741910323)) + (((((x - ((((x).toUInt64 >>> ((Int32.toInt64 1).toUInt64 &&& Int64.toUInt64 63)).toInt64) &&& 6148914691236517205)) &&& 3689348814741910323) + ((((x - ((((x).toUInt64 >>> ((Int32.toInt64 1).toUInt64 &&& Int64.toUInt64 63)).toInt64) &&& 6148914691236517205)).toUInt64 >>> ((Int32.toInt64 2).toUInt64 &&& Int64.toUInt64 63)).toInt64) &&& 3689348814741910323)).toUInt64 >>> ((Int32.toInt64 4).toUInt64 &&& Int64.toUInt64 63)).toInt64)) &&& 1085102592571150095).toUInt64 >>> ((Int32.toInt64 8).toUInt64 &&& Int64.toUInt64 63)).toInt64)).toUInt64 >>> ((Int32.toInt64 16).toUInt64 &&& Int64.toUInt64 63)).toInt64)).toUInt64 >>> ((Int32.toInt64 32).toUInt64 &&& Int64.toUInt64 63)).toInt64))) &&& 127))) (z, N, I, L, R)
  exact h _ rfl
theorem c_X9_headS {d z : Nat} {N : Nat → Nat} {I : Nat → Nat → Int32} {L : Nat → Nat → Int64} {R : Nat → Nat → Option Nat} {Q : qP} {h r i : Nat} {l : List Nat} (hS : stS z N h r) (hC : hsL I L h l) (hlr : l.length ≤ r) (hi : i < l.length) (g : Q (some (.long (lN (l.getD i 0 / 2 ^ 60)))) (z, N, I, L, R)) : qWP (d + 1) 104 [.ref h, .int (nI i)] (z, N, I, L, R) Q := by
  obtain ⟨hk, hk1, hz, hlt, hN, hr⟩ := hS
  obtain ⟨hI, hrow, hs⟩ := hC
  refine c_X9_head hk hk1 hz hlt (by rw [hI]; exact ⟨nI_pos' (by omega), show nI l.length ≤ nI 200 from nI_le (by omega) (by omega)⟩) (by rw [hI, hN, nI_clamp (by omega)]; omega) fun v hv => ?_
  rw [hI, (sHd_n (by omega) hi).1, (hrow i hi).2.1] at hv
  rw [hv]
  exact g
theorem c_X9_tailS {d z : Nat} {N : Nat → Nat} {I : Nat → Nat → Int32} {L : Nat → Nat → Int64} {R : Nat → Nat → Option Nat} {Q : qP} {h r i : Nat} {l : List Nat} (hS : stS z N h r) (hC : hsL I L h l) (hlr : l.length ≤ r) (hi : i < l.length) (g : Q (some (.long (lN (l.getD i 0 % 2 ^ 60)))) (z, N, I, L, R)) : qWP (d + 1) 105 [.ref h, .int (nI i)] (z, N, I, L, R) Q := by
  obtain ⟨hk, hk1, hz, hlt, hN, hr⟩ := hS
  obtain ⟨hI, hrow, hs⟩ := hC
  refine c_X9_tail hk hk1 hz hlt (by rw [hI]; exact ⟨nI_pos' (by omega), show nI l.length ≤ nI 200 from nI_le (by omega) (by omega)⟩) (by rw [hI, hN, nI_clamp (by omega)]; omega) fun v hv => ?_
  rw [hI, (sHd_n (by omega) hi).2, (hrow i hi).2.2] at hv
  rw [hv]
  exact g
theorem c_X9_addS {d z : Nat} {N : Nat → Nat} {I : Nat → Nat → Int32} {L : Nat → Nat → Int64} {R : Nat → Nat → Option Nat} {Q : qP} {h r K : Nat} {l : List Nat} (hS : stS z N h r) (hC : hsL I L h l) (hlr : l.length ≤ r) (hK : K < 2 ^ 120) (g0 : addI ins r [some K] l = none → Q (some (.int 0)) (z, N, I, L, R)) (g1 : ∀ l' e, addI ins r [some K] l = some l' → rowL e l' → Q (some (.int 1)) (z, N, q2 I h 1 (nI l'.length), qRow L (h + 1) e, R)) : qWP (d + 3) 109 [.ref h, .long (lN (K / 2 ^ 60)), .long (lN (K % 2 ^ 60))] (z, N, I, L, R) Q := by
  rw [addI1] at g0 g1
  exact c_X9_add (d := d) hS.1 hS.2.1 hS.2.2.1 hS.2.2.2.1 hS.2.2.2.2.1 hS.2.2.2.2.2 hC.1 hlr hC.2.2 hC.2.1 hK g0 g1
theorem c_X9_clear {d z : Nat} {N : Nat → Nat} {I : Nat → Nat → Int32} {L : Nat → Nat → Int64} {R : Nat → Nat → Option Nat} {Q : qP} {h r : Nat} (hS : stS z N h r) (g : Q none (z, N, q2 I h 1 0, L, R)) : qWP (d + 1) 102 [.ref h] (z, N, I, L, R) Q := by
  refine qWP_of m_X9_clear rfl rfl [(0, .ref h)] rfl ?_
  refine qJ_run (qWP_mono _) [2] 400 ?_
  change qJ m_X9_clear (qWP _) Q 2 [(0, .ref h)] [.int 0, .ref h] _ _ (z, N, I, L, R)
  refine qJ_run (qWP_mono _) [2] 400 ?_
  refine st_put1 rfl hS.1 (Nat.lt_of_succ_lt hS.2.2.2.1) ?_
  change Q none (z, N, q2 I h 1 0, L, R)
  exact g
theorem c_X9_lengthOf {d z : Nat} {N : Nat → Nat} {I : Nat → Nat → Int32} {L : Nat → Nat → Int64} {R : Nat → Nat → Option Nat} {Q : qP} {K n : Nat} (hst : qStat (z, N, I, L, R)) (hv : vK K n) (g0 : Q (some (.int (nI n))) (z, N, I, L, R)) : qWP (d + 2) 108 [.long (lN (K / 2 ^ 60)), .long (lN (K % 2 ^ 60))] (z, N, I, L, R) Q := by
  refine qWP_of m_X9_lengthOf rfl rfl [(0, .long (lN (K / 2 ^ 60))), (2, .long (lN (K % 2 ^ 60)))] rfl ?_
  refine qJ_run (qWP_mono _) [] 400 ?_
  refine ⟨fun (c1 : ¬ (lg_cmp (lN (K / 2 ^ 60)) 0) = 0) => ?_, fun (c1 : (lg_cmp (lN (K / 2 ^ 60)) 0) = 0) => ?_⟩
  · refine ⟨fun (c2 : ¬ (lg_cmp (lN (K % 2 ^ 60)) 0) = 0) => ?_, fun (c2 : (lg_cmp (lN (K % 2 ^ 60)) 0) = 0) => ?_⟩
    · refine ⟨⟨Nat.le_refl _, Nat.le_refl _⟩, ?_⟩
      refine c_J13_bitCount_95d88 fun v1 hv1 => ⟨hst, ?_⟩
      refine ⟨fun (c3 : ¬ (lg_cmp (lN (K % 2 ^ 60)) 0) = 0) => ?_, fun (c3 : (lg_cmp (lN (K % 2 ^ 60)) 0) = 0) => ?_⟩
      · refine ⟨?_, ?_⟩
        · decide
        change Q (some (.int (24 - (v1 / 5)))) (z, N, I, L, R)
        simp only [lg_eq] at *
        have g := vK_half hv
        have hK := hv.2.1
        have n24 := hv.1
        have cH : ¬ K / 2 ^ 60 = 0 := fun h9 => by
          have c9 := c1
          rw [h9] at c9
          exact c9 rfl
        have n0 : 0 < n := by
          refine Nat.pos_of_ne_zero fun h9 => ?_
          exact cH (g.1 h9).1
        have cT : ¬ K % 2 ^ 60 = 0 := fun h9 => by
          have c9 := c2
          rw [h9] at c9
          exact c9 rfl
        have n12 : 12 < n := by
          refine Decidable.byContradiction fun h9 => ?_
          exact cT (g.2.1 n0 (by omega)).1
        obtain ⟨b, c, b0, b1, eX⟩ := low5 (g.2.2 n12).2.1 (g.2.2 n12).2.2
        have e5 : b / 5 = 24 - n := by omega
        have hX : K % 2 ^ 60 < 2 ^ 63 := by omega
        rw [eX] at hX
        have e6 := wLow hX
        rw [← eX] at e6
        rw [e6] at hv1
        replace hv1 : v1 = fBL (lN (2 ^ b) - 1) := hv1
        rw [fBL_b b (by omega)] at hv1
        have e7 : v1 / 5 = nI (b / 5) := by rw [hv1]; exact pk_div (d := 5) (by omega) (by decide) (by decide)
        have e8 : 24 - v1 / 5 = nI n := by
          rw [e7, e5]
          refine (pk_sub (a := 24) (by omega)).trans ?_
          congr 1
          omega
        rw [e8]
        exact g0
      · refine ⟨?_, ?_⟩
        · decide
        change Q (some (.int (12 - (v1 / 5)))) (z, N, I, L, R)
        first | exact absurd c2 c3 | exact absurd c3 c2
    · refine ⟨⟨Nat.le_refl _, Nat.le_refl _⟩, ?_⟩
      refine c_J13_bitCount_95d88 fun v2 hv2 => ⟨hst, ?_⟩
      refine ⟨fun (c4 : ¬ (lg_cmp (lN (K % 2 ^ 60)) 0) = 0) => ?_, fun (c4 : (lg_cmp (lN (K % 2 ^ 60)) 0) = 0) => ?_⟩
      · refine ⟨?_, ?_⟩
        · decide
        change Q (some (.int (24 - (v2 / 5)))) (z, N, I, L, R)
        first | exact absurd c2 c4 | exact absurd c4 c2
      · refine ⟨?_, ?_⟩
        · decide
        change Q (some (.int (12 - (v2 / 5)))) (z, N, I, L, R)
        simp only [lg_eq] at *
        have g := vK_half hv
        have hK := hv.2.1
        have n24 := hv.1
        have cH : ¬ K / 2 ^ 60 = 0 := fun h9 => by
          have c9 := c1
          rw [h9] at c9
          exact c9 rfl
        have n0 : 0 < n := by
          refine Nat.pos_of_ne_zero fun h9 => ?_
          exact cH (g.1 h9).1
        have cT : K % 2 ^ 60 = 0 := (pk_lEQ (b := 0) (by omega) (by omega)).mp c2
        have n12 : n ≤ 12 := by
          refine Decidable.byContradiction fun h9 => ?_
          have h7 := (g.2.2 (by omega)).2.2
          rw [cT, Nat.zero_div] at h7
          exact h7 rfl
        obtain ⟨b, c, b0, b1, eX⟩ := low5 (g.2.1 n0 n12).2.1 (g.2.1 n0 n12).2.2
        have e5 : b / 5 = 12 - n := by omega
        have hX : K / 2 ^ 60 < 2 ^ 63 := by omega
        rw [eX] at hX
        have e6 := wLow hX
        rw [← eX] at e6
        rw [e6] at hv2
        replace hv2 : v2 = fBL (lN (2 ^ b) - 1) := hv2
        rw [fBL_b b (by omega)] at hv2
        have e7 : v2 / 5 = nI (b / 5) := by rw [hv2]; exact pk_div (d := 5) (by omega) (by decide) (by decide)
        have e8 : 12 - v2 / 5 = nI n := by
          rw [e7, e5]
          refine (pk_sub (a := 12) (by omega)).trans ?_
          congr 1
          omega
        rw [e8]
        exact g0
  · change Q (some (.int 0)) (z, N, I, L, R)
    have e9 : n = 0 := by
      have g := vK_half hv
      have c9 := c1
      simp only [lg_eq] at *
      first
      | (have c8 : K / 2 ^ 60 = 0 := (pk_lEQ (b := 0) (by have := hv.2.1; omega) (by omega)).mp (by assumption)
         refine Decidable.byContradiction fun h9 => ?_
         by_cases h8 : n ≤ 12
         · have h7 := (g.2.1 (by omega) h8).2.2
           rw [c8, Nat.zero_div] at h7
           exact h7 rfl
         · exact (g.2.2 (by omega)).1 c8)
    rw [e9] at g0
    exact g0
def cdN (j : Nat) : Nat := if j = 26 then 1 else j + 2
theorem c_X9_codeAt {d z : Nat} {N : Nat → Nat} {I : Nat → Nat → Int32} {L : Nat → Nat → Int64} {R : Nat → Nat → Option Nat} {Q : qP} {j k : Nat} (hj : j ≤ 26) (hk : k < 12) (g0 : Q (some (.long (lN (cdN j * 2 ^ (5 * (11 - k)))))) (z, N, I, L, R)) : qWP (d + 1) 107 [.int (nI j), .int (nI k)] (z, N, I, L, R) Q := by
  refine qWP_of m_X9_codeAt rfl rfl [(0, .int (nI j)), (1, .int (nI k))] rfl ?_
  refine qJ_run (qWP_mono _) [] 400 ?_
  refine ⟨fun (c1 : ¬ (nI j) = 26) => ?_, fun (c1 : (nI j) = 26) => ?_⟩
  · change Q (some (.long (((Int32.toInt64 (nI j)) + 2) <<< (Int32.toInt64 ((11 - (nI k)) * 5) &&& 63)))) (z, N, I, L, R)
    have ek : (11 - nI k) * 5 = nI (5 * (11 - k)) := by
      rw [show (11 : Int32) = nI 11 from rfl, pk_sub (by omega), show (5 : Int32) = nI 5 from rfl, pk_mul, Nat.mul_comm]
    rw [ek]
    have ej : ¬ j = 26 := fun h9 => by
      have c9 := c1
      rw [h9] at c9
      exact c9 rfl
    have e1 : (Int32.toInt64 (nI j) + 2) <<< (Int32.toInt64 (nI (5 * (11 - k))) &&& 63) = lN (cdN j * 2 ^ (5 * (11 - k))) := by
      rw [nI_l (by omega), show lN j + 2 = lN (j + 2) from lN_add j 2, wShl _ (by omega)]
      unfold cdN
      rw [if_neg ej]
    rw [e1]
    exact g0
  · change Q (some (.long (1 <<< (Int32.toInt64 ((11 - (nI k)) * 5) &&& 63)))) (z, N, I, L, R)
    have ek : (11 - nI k) * 5 = nI (5 * (11 - k)) := by
      rw [show (11 : Int32) = nI 11 from rfl, pk_sub (by omega), show (5 : Int32) = nI 5 from rfl, pk_mul, Nat.mul_comm]
    rw [ek]
    have ej : j = 26 := (nI_eq (b := 26) (by omega) (by decide)).mp c1
    have e1 : (1 : Int64) <<< (Int32.toInt64 (nI (5 * (11 - k))) &&& 63) = lN (cdN j * 2 ^ (5 * (11 - k))) := by
      rw [show (1 : Int64) = lN 1 from rfl, wShl _ (by omega)]
      unfold cdN
      rw [if_pos ej]
    rw [e1]
    exact g0
theorem c_X9_addPair {d z : Nat} {N : Nat → Nat} {I : Nat → Nat → Int32} {L : Nat → Nat → Int64} {R : Nat → Nat → Option Nat} {Q : qP} {h r : Nat} {l : List Nat} (hS : stS z N h r) (hC : hsL I L h l) (hlr : l.length ≤ r) {K1 n1 K2 n2 : Nat} (hst : qStat (z, N, I, L, R)) (h1 : vK K1 n1) (h2 : vK K2 n2) (g0 : addI ins r [cat K1 K2] l = none → Q (some (.int 0)) (z, N, I, L, R)) (g1 : ∀ l' e, addI ins r [cat K1 K2] l = some l' → rowL e l' → Q (some (.int 1)) (z, N, q2 I h 1 (nI l'.length), qRow L (h + 1) e, R)) : qWP (d + 4) 112 [.ref h, .long (lN (K1 / 2 ^ 60)), .long (lN (K1 % 2 ^ 60)), .long (lN (K2 / 2 ^ 60)), .long (lN (K2 % 2 ^ 60))] (z, N, I, L, R) Q := by
  refine qWP_of m_X9_addPair rfl rfl [(0, .ref h), (1, .long (lN (K1 / 2 ^ 60))), (3, .long (lN (K1 % 2 ^ 60))), (5, .long (lN (K2 / 2 ^ 60))), (7, .long (lN (K2 % 2 ^ 60)))] rfl ?_
  refine qJ_run (qWP_mono _) [26, 38, 96, 144] 400 ?_
  refine ⟨⟨Nat.le_refl _, Nat.le_refl _⟩, ?_⟩
  refine c_X9_lengthOf (d := d + 1) hst h1 ?_
  refine ⟨⟨Nat.le_refl _, Nat.le_refl _⟩, ?_⟩
  refine c_X9_lengthOf (d := d + 1) hst h2 ?_
  refine ⟨fun (c1 : ¬ (nI n1) = 0) => ?_, fun (c1 : (nI n1) = 0) => ?_⟩
  · have n10 : ¬ n1 = 0 := fun h9 => c1 (by rw [h9]; rfl)
    refine ⟨fun (c2 : ¬ (nI n2) = 0) => ?_, fun (c2 : (nI n2) = 0) => ?_⟩
    · have n20 : ¬ n2 = 0 := fun h9 => c2 (by rw [h9]; rfl)
      refine ⟨fun (c3 : (((nI n1) + 1) + (nI n2)) ≤ 24) => ?_, fun (c3 : ¬ (((nI n1) + 1) + (nI n2)) ≤ 24) => ?_⟩
      · have n24 : n1 + 1 + n2 ≤ 24 := by
          have c9 := c3
          rw [nI_1, nI_add] at c9
          exact (nI_leI (b := 24) (by have := h1.1; have := h2.1; omega) (by omega)).mp c9
        refine ⟨fun (c4 : ((nI n1) + 1) ≤ 12) => ?_, fun (c4 : ¬ ((nI n1) + 1) ≤ 12) => ?_⟩
        · have n12 : n1 ≤ 11 := by
            have c9 := c4
            rw [nI_1] at c9
            have := (nI_leI (b := 12) (by have := h1.1; omega) (by omega)).mp c9
            omega
          refine ⟨⟨Nat.le_refl _, Nat.le_refl _⟩, ?_⟩
          refine c_X9_codeAt (d := d + 2) (j := 26) (k := n1) (by omega) (by omega) ?_
          change qJ m_X9_addPair (qWP _) Q 144 [(13, .long (((lN (K2 / 2 ^ 60)) <<< (Int32.toInt64 (60 - (((nI n1) + 1) * 5)) &&& 63)) &&& 1152921504606846975)), (12, .int (((nI n1) + 1) * 5)), (11, .int ((nI n1) + 1)), (10, .int (nI n2)), (9, .int (nI n1)), (0, .ref h), (1, .long (lN (K1 / 2 ^ 60))), (3, .long (lN (K1 % 2 ^ 60))), (5, .long (lN (K2 / 2 ^ 60))), (7, .long (lN (K2 % 2 ^ 60)))] [.long ((((lN (K2 / 2 ^ 60)) <<< (Int32.toInt64 (60 - (((nI n1) + 1) * 5)) &&& 63)) &&& 1152921504606846975) ||| ((lN (K2 % 2 ^ 60)) >>> (Int32.toInt64 (((nI n1) + 1) * 5) &&& 63))), .long (((lN (K1 / 2 ^ 60)) ||| (lN (cdN 26 * 2 ^ (5 * (11 - n1))))) ||| ((lN (K2 / 2 ^ 60)) >>> (Int32.toInt64 (((nI n1) + 1) * 5) &&& 63))), .ref h] _ _ (z, N, I, L, R)
          refine qJ_run (qWP_mono _) [26, 38, 96, 144] 400 ?_
          refine st_call rfl (fun _ h => h) hS.1 rfl (Nat.lt_of_succ_lt hS.2.2.2.1) ?_
          refine ⟨⟨Nat.le_refl _, Nat.le_refl _⟩, ?_⟩
          obtain ⟨ec, hcc, hcs⟩ := cat_sum h1 h2 n10 n20 n24
          have hK1 := h1.2.1
          have hK2 := h2.2.1
          have ht := vK_tail h1
          have hm1 : K1 % 2 ^ (5 * (24 - n1)) = 0 := by
            rw [← pw32]
            rw [ht]
            exact Nat.mul_mod_left _ _
          have eK : (K1 + 32 ^ (23 - n1) + K2 / 32 ^ (n1 + 1)) = (K1 + 2 ^ (5 * (23 - n1)) + K2 / 2 ^ (5 * (n1 + 1))) := by rw [pw32, pw32]
          obtain ⟨u1, u2, u3, u4, u5, u6⟩ := cat_lo (K1 := K1) (n1 := n1) (K2 := K2) (by omega) n12 hm1 (by omega)
          have esh : (nI n1 + 1) * 5 = nI (5 * (n1 + 1)) := by
            rw [nI_1, show (5 : Int32) = nI 5 from rfl, pk_mul, Nat.mul_comm]
          have esr : ∀ x : Nat, x < 2 ^ 60 → lN x >>> (Int32.toInt64 ((nI n1 + 1) * 5) &&& 63) = lN (x / 2 ^ (5 * (n1 + 1))) := fun x hx => by
            rw [esh]; exact wShr (by omega) (by omega)
          have ea0 : (((lN (K1 / 2 ^ 60)) ||| (lN (cdN 26 * 2 ^ (5 * (11 - n1))))) ||| ((lN (K2 / 2 ^ 60)) >>> (Int32.toInt64 (((nI n1) + 1) * 5) &&& 63))) = lN ((K1 + 32 ^ (23 - n1) + K2 / 32 ^ (n1 + 1)) / 2 ^ 60) := by
            rw [esr _ (by omega), eK, u1]
            have ecd : cdN 26 * 2 ^ (5 * (11 - n1)) = 2 ^ (5 * (11 - n1)) := by rw [show cdN 26 = 1 from rfl, Nat.one_mul]
            rw [ecd]
            have q1 : 2 ^ (5 * (11 - n1)) < 2 ^ (5 * (12 - n1)) := Nat.pow_lt_pow_right (by decide) (by omega)
            have s1 : lN (K1 / 2 ^ 60) ||| lN (2 ^ (5 * (11 - n1))) = lN (2 ^ (5 * (11 - n1)) * (2 ^ 5 * (K1 / 2 ^ 60 / 2 ^ (5 * (12 - n1))) + 1)) := by
              rw [u3, wOrS _ q1]
              congr 1
              rw [← u3, Nat.mul_add, Nat.mul_one, ← Nat.mul_assoc, ← Nat.pow_add, show 5 * (11 - n1) + 5 = 5 * (12 - n1) by omega, ← u3]
            rw [s1, wOrS _ u4]
            congr 1
            rw [Nat.mul_add, Nat.mul_one, ← Nat.mul_assoc, ← Nat.pow_add, show 5 * (11 - n1) + 5 = 5 * (12 - n1) by omega, ← u3]
          have ea1 : ((((lN (K2 / 2 ^ 60)) <<< (Int32.toInt64 (60 - (((nI n1) + 1) * 5)) &&& 63)) &&& 1152921504606846975) ||| ((lN (K2 % 2 ^ 60)) >>> (Int32.toInt64 (((nI n1) + 1) * 5) &&& 63))) = lN ((K1 + 32 ^ (23 - n1) + K2 / 32 ^ (n1 + 1)) % 2 ^ 60) := by
            rw [esr _ (Nat.mod_lt _ (by decide)), eK, u2]
            have e60 : 60 - (nI n1 + 1) * 5 = nI (60 - 5 * (n1 + 1)) := by
              rw [esh, show (60 : Int32) = nI 60 from rfl, pk_sub (by omega)]
            rw [e60, wShl _ (by omega), wMask, u5, wOrS _ u6]
          refine qWP_as (as := [.ref h, .long (((lN (K1 / 2 ^ 60)) ||| (lN (cdN 26 * 2 ^ (5 * (11 - n1))))) ||| ((lN (K2 / 2 ^ 60)) >>> (Int32.toInt64 (((nI n1) + 1) * 5) &&& 63))), .long ((((lN (K2 / 2 ^ 60)) <<< (Int32.toInt64 (60 - (((nI n1) + 1) * 5)) &&& 63)) &&& 1152921504606846975) ||| ((lN (K2 % 2 ^ 60)) >>> (Int32.toInt64 (((nI n1) + 1) * 5) &&& 63)))]) (as' := [.ref h, .long (lN ((K1 + 32 ^ (23 - n1) + K2 / 32 ^ (n1 + 1)) / 2 ^ 60)), .long (lN ((K1 + 32 ^ (23 - n1) + K2 / 32 ^ (n1 + 1)) % 2 ^ 60))]) (by rw [ea0, ea1]) ?_
          refine c_X9_addS (d := d) (K := (K1 + 32 ^ (23 - n1) + K2 / 32 ^ (n1 + 1))) hS hC hlr (by rw [show (32 : Nat) ^ 24 = 2 ^ 120 from rfl] at hcs; exact hcs) (fun ea => ?_) (fun l2 e2 ea hr2 => ?_)
          · refine ⟨by first | exact Or.inl rfl | exact Or.inr rfl | (grind), ?_⟩
            change Q (some (.int 0)) (z, N, I, L, R)
            exact g0 (by rw [ec]; exact ea)
          · refine ⟨by first | exact Or.inl rfl | exact Or.inr rfl | (grind), ?_⟩
            change Q (some (.int 1)) (z, N, q2 I h 1 (nI l2.length), qRow L (h + 1) e2, R)
            exact g1 _ _ (by rw [ec]; exact ea) hr2
        · have n12 : 12 ≤ n1 := by
            refine Decidable.byContradiction fun h9 => ?_
            exact c4 (by rw [nI_1]; exact nI_le (b := 12) (by omega) (by omega))
          refine ⟨⟨Nat.le_refl _, Nat.le_refl _⟩, ?_⟩
          have e12 : nI n1 - 12 = nI (n1 - 12) := pk_sub (b := 12) n12
          refine qWP_as (as' := [.int (nI 26), .int (nI (n1 - 12))]) (show [Value.int 26, Value.int (nI n1 - 12)] = _ by rw [e12]; rfl) ?_
          refine c_X9_codeAt (d := d + 2) (j := 26) (k := n1 - 12) (by omega) (by have := h1.1; omega) ?_
          change qJ m_X9_addPair (qWP _) Q 96 [(12, .int ((((nI n1) + 1) - 12) * 5)), (11, .int ((nI n1) + 1)), (10, .int (nI n2)), (9, .int (nI n1)), (0, .ref h), (1, .long (lN (K1 / 2 ^ 60))), (3, .long (lN (K1 % 2 ^ 60))), (5, .long (lN (K2 / 2 ^ 60))), (7, .long (lN (K2 % 2 ^ 60)))] [.long (((lN (K1 % 2 ^ 60)) ||| (lN (cdN 26 * 2 ^ (5 * (11 - (n1 - 12)))))) ||| ((lN (K2 / 2 ^ 60)) >>> (Int32.toInt64 ((((nI n1) + 1) - 12) * 5) &&& 63))), .long (lN (K1 / 2 ^ 60)), .ref h] _ _ (z, N, I, L, R)
          refine qJ_run (qWP_mono _) [26, 38, 96, 144] 400 ?_
          refine st_call rfl (fun _ h => h) hS.1 rfl (Nat.lt_of_succ_lt hS.2.2.2.1) ?_
          refine ⟨⟨Nat.le_refl _, Nat.le_refl _⟩, ?_⟩
          obtain ⟨ec, hcc, hcs⟩ := cat_sum h1 h2 n10 n20 n24
          have hK1 := h1.2.1
          have hK2 := h2.2.1
          have ht := vK_tail h1
          have hm1 : K1 % 2 ^ (5 * (24 - n1)) = 0 := by
            rw [← pw32]
            rw [ht]
            exact Nat.mul_mod_left _ _
          have eK : (K1 + 32 ^ (23 - n1) + K2 / 32 ^ (n1 + 1)) = (K1 + 2 ^ (5 * (23 - n1)) + K2 / 2 ^ (5 * (n1 + 1))) := by rw [pw32, pw32]
          obtain ⟨u1, u2, u3, u4⟩ := cat_hi (K1 := K1) (n1 := n1) (K2 := K2) n12 (by omega) hm1 (by omega)
          have ea0 : lN (K1 / 2 ^ 60) = lN ((K1 + 32 ^ (23 - n1) + K2 / 32 ^ (n1 + 1)) / 2 ^ 60) := by rw [eK, u1]
          have esh : ((nI n1 + 1) - 12) * 5 = nI (5 * (n1 - 11)) := by
            rw [nI_1, show (12 : Int32) = nI 12 from rfl, pk_sub (by omega), show (5 : Int32) = nI 5 from rfl, pk_mul, Nat.mul_comm]
            congr 2
          have esr : lN (K2 / 2 ^ 60) >>> (Int32.toInt64 (((nI n1 + 1) - 12) * 5) &&& 63) = lN (K2 / 2 ^ 60 / 2 ^ (5 * (n1 - 11))) := by
            rw [esh]; exact wShr (by omega) (by omega)
          have ea1 : (((lN (K1 % 2 ^ 60)) ||| (lN (cdN 26 * 2 ^ (5 * (11 - (n1 - 12)))))) ||| ((lN (K2 / 2 ^ 60)) >>> (Int32.toInt64 ((((nI n1) + 1) - 12) * 5) &&& 63))) = lN ((K1 + 32 ^ (23 - n1) + K2 / 32 ^ (n1 + 1)) % 2 ^ 60) := by
            rw [esr, eK, u2]
            have e24 : 2 ^ (5 * (24 - n1)) = 2 * 2 ^ 4 * 2 ^ (5 * (23 - n1)) := by rw [show 5 * (24 - n1) = 5 + 5 * (23 - n1) by omega, Nat.pow_add]
            have q1 : 2 ^ (5 * (23 - n1)) < 2 ^ (5 * (24 - n1)) := Nat.pow_lt_pow_right (by decide) (by omega)
            have ecd : cdN 26 * 2 ^ (5 * (11 - (n1 - 12))) = 2 ^ (5 * (23 - n1)) := by
              rw [show cdN 26 = 1 from rfl, Nat.one_mul, show 11 - (n1 - 12) = 23 - n1 by omega]
            rw [ecd]
            have s1 : lN (K1 % 2 ^ 60) ||| lN (2 ^ (5 * (23 - n1))) = lN (2 ^ (5 * (23 - n1)) * (2 ^ 5 * (K1 % 2 ^ 60 / 2 ^ (5 * (24 - n1))) + 1)) := by
              rw [u3, wOrS _ q1]
              congr 1
              rw [← u3, Nat.mul_add, Nat.mul_one, ← Nat.mul_assoc, ← Nat.pow_add, show 5 * (23 - n1) + 5 = 5 * (24 - n1) by omega, ← u3]
            rw [s1, wOrS _ u4]
            congr 1
            rw [Nat.mul_add, Nat.mul_one, ← Nat.mul_assoc, ← Nat.pow_add, show 5 * (23 - n1) + 5 = 5 * (24 - n1) by omega, ← u3]
          refine qWP_as (as := [.ref h, .long (lN (K1 / 2 ^ 60)), .long (((lN (K1 % 2 ^ 60)) ||| (lN (cdN 26 * 2 ^ (5 * (11 - (n1 - 12)))))) ||| ((lN (K2 / 2 ^ 60)) >>> (Int32.toInt64 ((((nI n1) + 1) - 12) * 5) &&& 63)))]) (as' := [.ref h, .long (lN ((K1 + 32 ^ (23 - n1) + K2 / 32 ^ (n1 + 1)) / 2 ^ 60)), .long (lN ((K1 + 32 ^ (23 - n1) + K2 / 32 ^ (n1 + 1)) % 2 ^ 60))]) (by rw [ea0, ea1]) ?_
          refine c_X9_addS (d := d) (K := (K1 + 32 ^ (23 - n1) + K2 / 32 ^ (n1 + 1))) hS hC hlr (by rw [show (32 : Nat) ^ 24 = 2 ^ 120 from rfl] at hcs; exact hcs) (fun ea => ?_) (fun l2 e2 ea hr2 => ?_)
          · refine ⟨by first | exact Or.inl rfl | exact Or.inr rfl | (grind), ?_⟩
            change Q (some (.int 0)) (z, N, I, L, R)
            exact g0 (by rw [ec]; exact ea)
          · refine ⟨by first | exact Or.inl rfl | exact Or.inr rfl | (grind), ?_⟩
            change Q (some (.int 1)) (z, N, q2 I h 1 (nI l2.length), qRow L (h + 1) e2, R)
            exact g1 _ _ (by rw [ec]; exact ea) hr2
      · have n24 : 24 < n1 + 1 + n2 := Nat.not_le.mp fun h9 => c3 (by rw [nI_1, nI_add]; exact nI_le (b := 24) h9 (by omega))
        refine ⟨by first | exact Or.inl rfl | exact Or.inr rfl | (grind), ?_⟩
        change Q (some (.int 0)) (z, N, I, L, R)
        exact g0 (by rw [(cat_0 h1 h2).2.2 n10 n20 n24]; rfl)
    · have n20 : n2 = 0 := (nI_eq (b := 0) (by have := h2.1; omega) (by omega)).mp c2
      change qJ m_X9_addPair (qWP _) Q 38 [(10, .int (nI n2)), (9, .int (nI n1)), (0, .ref h), (1, .long (lN (K1 / 2 ^ 60))), (3, .long (lN (K1 % 2 ^ 60))), (5, .long (lN (K2 / 2 ^ 60))), (7, .long (lN (K2 % 2 ^ 60)))] [.long (lN (K1 % 2 ^ 60)), .long (lN (K1 / 2 ^ 60)), .ref h] _ _ (z, N, I, L, R)
      refine qJ_run (qWP_mono _) [26, 38, 96, 144] 400 ?_
      refine st_call rfl (fun _ h => h) hS.1 rfl (Nat.lt_of_succ_lt hS.2.2.2.1) ?_
      refine ⟨⟨Nat.le_refl _, Nat.le_refl _⟩, ?_⟩
      have ec : cat K1 K2 = some K1 := (cat_0 h1 h2).2.1 n10 n20
      refine c_X9_addS (d := d) (K := K1) hS hC hlr (by have := h1.2.1; have := h2.2.1; omega) (fun ea => ?_) (fun l2 e2 ea hr2 => ?_)
      · refine ⟨by first | exact Or.inl rfl | exact Or.inr rfl | (grind), ?_⟩
        change Q (some (.int 0)) (z, N, I, L, R)
        exact g0 (by rw [ec]; exact ea)
      · refine ⟨by first | exact Or.inl rfl | exact Or.inr rfl | (grind), ?_⟩
        change Q (some (.int 1)) (z, N, q2 I h 1 (nI l2.length), qRow L (h + 1) e2, R)
        exact g1 _ _ (by rw [ec]; exact ea) hr2
  · have n10 : n1 = 0 := (nI_eq (b := 0) (by have := h1.1; omega) (by omega)).mp c1
    change qJ m_X9_addPair (qWP _) Q 26 [(10, .int (nI n2)), (9, .int (nI n1)), (0, .ref h), (1, .long (lN (K1 / 2 ^ 60))), (3, .long (lN (K1 % 2 ^ 60))), (5, .long (lN (K2 / 2 ^ 60))), (7, .long (lN (K2 % 2 ^ 60)))] [.long (lN (K2 % 2 ^ 60)), .long (lN (K2 / 2 ^ 60)), .ref h] _ _ (z, N, I, L, R)
    refine qJ_run (qWP_mono _) [26, 38, 96, 144] 400 ?_
    refine st_call rfl (fun _ h => h) hS.1 rfl (Nat.lt_of_succ_lt hS.2.2.2.1) ?_
    refine ⟨⟨Nat.le_refl _, Nat.le_refl _⟩, ?_⟩
    have ec : cat K1 K2 = some K2 := (cat_0 h1 h2).1 n10
    refine c_X9_addS (d := d) (K := K2) hS hC hlr (by have := h1.2.1; have := h2.2.1; omega) (fun ea => ?_) (fun l2 e2 ea hr2 => ?_)
    · refine ⟨by first | exact Or.inl rfl | exact Or.inr rfl | (grind), ?_⟩
      change Q (some (.int 0)) (z, N, I, L, R)
      exact g0 (by rw [ec]; exact ea)
    · refine ⟨by first | exact Or.inl rfl | exact Or.inr rfl | (grind), ?_⟩
      change Q (some (.int 1)) (z, N, q2 I h 1 (nI l2.length), qRow L (h + 1) e2, R)
      exact g1 _ _ (by rw [ec]; exact ea) hr2
