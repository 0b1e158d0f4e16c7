/-! formulas: the class's maker -/
def bI (b : Bool) : Int32 := if b = true then 1 else 0
theorem bI_b (b : Bool) : bI b = 0 ∨ bI b = 1 := by cases b <;> simp [bI]
theorem bI_1 {b : Bool} : bI b = 0 ↔ b = false := by cases b <;> simp [bI]
def rwK : List Nat := [17, 19, 23, 27, 31, 35]
def seK : List Nat := [15, 17, 19, 23, 27, 31, 35, 21, 25, 29, 33, 37]
def gOk (g : Nat → Nat) : Prop := (∀ i, i < 6 → g i ∈ rwK) ∧ ∀ i j, i < 6 → j < 6 → g i = g j → i = j
def okS (l : List Nat) : Prop := l.length ≤ 200 ∧ vS l
def mkF (I0 : Nat → Nat → Int32) (L0 : Nat → Nat → Int64) (R0 : Nat → Nat → Option Nat) (g : Nat → Nat) (s : sg) (I : Nat → Nat → Int32) (L : Nat → Nat → Int64) (R : Nat → Nat → Option Nat) : Prop :=
  gOk g ∧ gLv s ≤ 4 ∧ (∀ a, (a < 11 ∨ 38 < a) → I a = I0 a ∧ L a = L0 a ∧ R a = R0 a) ∧
  ((∀ i, i < 5 → R 13 i = some (21 + 4 * i)) ∧ (∀ i, i < 5 → R 12 i = some (g i)) ∧ R 11 4 = some (g 5)) ∧
  (I 11 6 = nI (gLv s) ∧ I 11 7 = bI (gBg s) ∧ I 11 8 = bI (gEn s) ∧ I 11 9 = bI (gSp s)) ∧ ∀ j, j ≤ gLv s → I 14 j = bI (gOp s j)
def mkC (g : Nat → Nat) (s : sg) (I : Nat → Nat → Int32) (L : Nat → Nat → Int64) : Prop := ∀ j, j ≤ gLv s → (hsL I L (g j) (gRw s j) ∧ okS (gRw s j)) ∧ hsL I L (21 + 4 * j) (gAl s j) ∧ okS (gAl s j)
def mkR (I0 : Nat → Nat → Int32) (L0 : Nat → Nat → Int64) (R0 : Nat → Nat → Option Nat) (g : Nat → Nat) (s : sg) (I : Nat → Nat → Int32) (L : Nat → Nat → Int64) (R : Nat → Nat → Option Nat) : Prop := mkF I0 L0 R0 g s I L R ∧ (gSp s = false → mkC g s I L)
theorem seK_n {k : Nat} (h : k ∈ seK) : 11 < k ∧ k < 38 ∧ k ≠ 14 ∧ qK k = 9 ∧ qK (k + 1) = 15 ∧ qSz (k + 1) = none ∧ k % 2 = 1 := by
  revert k
  decide
theorem rwK_n {k : Nat} (h : k ∈ rwK) : k ∈ seK ∧ k ≠ 15 ∧ (∀ j, j < 5 → k ≠ 21 + 4 * j) := by
  revert k
  decide
theorem alK_n {j : Nat} (h : j < 5) : 21 + 4 * j ∈ seK := by
  revert j
  decide
def mkN (z : Nat) (N : Nat → Nat) : Prop := 94 ≤ z ∧ N 16 = 2 ∧ ∀ k ∈ [17, 19, 23, 27, 31, 35, 21, 25, 29, 33, 37], N (k + 1) = 400
theorem seK_c {k : Nat} (h : k ∈ seK) (h9 : ¬ k = 15) : k ∈ [17, 19, 23, 27, 31, 35, 21, 25, 29, 33, 37] := by
  revert k
  decide
theorem mkN_s {z : Nat} {N : Nat → Nat} (h : mkN z N) {k : Nat} (hk : k ∈ seK) (h9 : ¬ k = 15) : stS z N k 200 := by
  obtain ⟨h1, h2, h3⟩ := h
  have g := seK_n hk
  exact ⟨g.2.2.2.1, g.2.2.2.2.1, g.2.2.2.2.2.1, by omega, h3 k (seK_c hk h9), by omega⟩
theorem mkN_w {z : Nat} {N : Nat → Nat} (h : mkN z N) : stS z N 15 1 := ⟨rfl, rfl, rfl, by have := h.1; omega, h.2.1, by omega⟩
theorem mkN_r {z : Nat} {N : Nat → Nat} {g : Nat → Nat} (h : mkN z N) (hg : gOk g) {i : Nat} (hi : i < 6) : stS z N (g i) 200 := mkN_s h (rwK_n (hg.1 i hi)).1 (rwK_n (hg.1 i hi)).2.1
theorem mkN_a {z : Nat} {N : Nat → Nat} (h : mkN z N) {j : Nat} (hj : j < 5) : stS z N (21 + 4 * j) 200 := mkN_s h (alK_n hj) (by omega)
/-- a set's cells are another's -/
theorem hsL_fr {I I' : Nat → Nat → Int32} {L L' : Nat → Nat → Int64} {k o : Nat} {m : List Nat} (hC : hsL I L o m) (hI : ∀ a, a ≠ k → I' a = I a) (hL : ∀ a, a ≠ k + 1 → L' a = L a) (hne : o ≠ k) : hsL I' L' o m := by
  unfold hsL
  rw [hI o hne, hL (o + 1) (by omega)]
  exact hC
theorem hsL_I {I I' : Nat → Nat → Int32} {L : Nat → Nat → Int64} {k o : Nat} {m : List Nat} (hC : hsL I L o m) (hI : ∀ a, a ≠ k → I' a = I a) (hne : o ≠ k) : hsL I' L o m := by
  unfold hsL
  rw [hI o hne]
  exact hC
theorem mkF_set {I0 I I' : Nat → Nat → Int32} {L0 L L' : Nat → Nat → Int64} {R0 R : Nat → Nat → Option Nat} {g : Nat → Nat} {s : sg} {k : Nat} (h : mkF I0 L0 R0 g s I L R) (hk : k ∈ seK) (hI : ∀ a, a ≠ k → I' a = I a) (hL : ∀ a, a ≠ k + 1 → L' a = L a) : mkF I0 L0 R0 g s I' L' R := by
  obtain ⟨h1, h2, h3, h4, h5, h6⟩ := h
  have hn := seK_n hk
  refine ⟨h1, h2, fun a ha => ?_, h4, ?_, fun j hj => ?_⟩
  · rw [hI a (by omega), hL a (by omega)]; exact h3 a ha
  · rw [hI 11 (by omega)]; exact h5
  · rw [hI 14 (fun e => hn.2.2.1 e.symm)]; exact h6 j hj
/-- the maker's own cells moved -/
theorem mkF_own {I0 I I' : Nat → Nat → Int32} {L0 L : Nat → Nat → Int64} {R0 R : Nat → Nat → Option Nat} {g : Nat → Nat} {s s' : sg} (h : mkF I0 L0 R0 g s I L R) (hI : ∀ a, a ≠ 11 → I' a = I a) (hl : gLv s' ≤ gLv s) (hf : I' 11 6 = nI (gLv s') ∧ I' 11 7 = bI (gBg s') ∧ I' 11 8 = bI (gEn s') ∧ I' 11 9 = bI (gSp s')) (ho : gOp s' = gOp s) : mkF I0 L0 R0 g s' I' L R := by
  obtain ⟨h1, h2, h3, h4, h5, h6⟩ := h
  refine ⟨h1, by omega, fun a ha => ?_, h4, hf, fun j hj => ?_⟩
  · rw [hI a (by omega)]; exact h3 a ha
  · rw [hI 14 (by omega), ho]; exact h6 j (by omega)
theorem mkC_own {I I' : Nat → Nat → Int32} {L : Nat → Nat → Int64} {g : Nat → Nat} {s s' : sg} (hg : gOk g) (h : mkC g s I L) (hI : ∀ a, a ≠ 11 → I' a = I a) (hl : gLv s' ≤ gLv s) (h4 : gLv s ≤ 4) (hr : gRw s' = gRw s) (ha : gAl s' = gAl s) : mkC g s' I' L := fun j hj => by
  rw [hr, ha]
  have hj4 : j < 5 := by omega
  have n1 := (seK_n (rwK_n (hg.1 j (by omega))).1).1
  exact ⟨⟨hsL_I (h j (by omega)).1.1 hI (by omega), (h j (by omega)).1.2⟩, hsL_I (h j (by omega)).2.1 hI (by omega), (h j (by omega)).2.2⟩
/-- a row told anew -/
theorem mkC_row {I I' : Nat → Nat → Int32} {L L' : Nat → Nat → Int64} {g : Nat → Nat} {s : sg} {l : List Nat} (hg : gOk g) (h : mkC g s I L) (h4 : gLv s ≤ 4) (hI : ∀ a, a ≠ g (gLv s) → I' a = I a) (hL : ∀ a, a ≠ g (gLv s) + 1 → L' a = L a) (hl : hsL I' L' (g (gLv s)) l) (ho : okS l) : mkC g (wRw s l) I' L' := fun j hj => by
  have hj5 : j ≤ gLv s := hj
  have n1 := rwK_n (hg.1 (gLv s) (by omega))
  have hA := (h j hj5).2
  refine ⟨?_, hsL_fr hA.1 hI hL (fun e => n1.2.2 j (by omega) e.symm), hA.2⟩
  show hsL I' L' (g j) (upD (gRw s) (gLv s) l j) ∧ okS (upD (gRw s) (gLv s) l j)
  by_cases e : j = gLv s
  · subst e; rw [upD_at]; exact ⟨hl, ho⟩
  · rw [upD_ne e]
    exact ⟨hsL_fr (h j hj5).1.1 hI hL (fun e9 => e (hg.2 j (gLv s) (by omega) (by omega) e9)), (h j hj5).1.2⟩
theorem mkC_all {I I' : Nat → Nat → Int32} {L L' : Nat → Nat → Int64} {g : Nat → Nat} {s : sg} {l : List Nat} (hg : gOk g) (h : mkC g s I L) (h4 : gLv s ≤ 4) (hI : ∀ a, a ≠ 21 + 4 * gLv s → I' a = I a) (hL : ∀ a, a ≠ 21 + 4 * gLv s + 1 → L' a = L a) (hl : hsL I' L' (21 + 4 * gLv s) l) (ho : okS l) : mkC g (wAl s l) I' L' := fun j hj => by
  have hj5 : j ≤ gLv s := hj
  have n1 := rwK_n (hg.1 j (by omega))
  refine ⟨⟨hsL_fr (h j hj5).1.1 hI hL (n1.2.2 (gLv s) (by omega)), (h j hj5).1.2⟩, ?_⟩
  show hsL I' L' (21 + 4 * j) (upD (gAl s) (gLv s) l j) ∧ okS (upD (gAl s) (gLv s) l j)
  by_cases e : j = gLv s
  · subst e; rw [upD_at]; exact ⟨hl, ho⟩
  · rw [upD_ne e]
    exact ⟨hsL_fr (h j hj5).2.1 hI hL (by omega), (h j hj5).2.2⟩
/-- a set that no level holds -/
theorem mkC_free {I I' : Nat → Nat → Int32} {L L' : Nat → Nat → Int64} {g : Nat → Nat} {s : sg} {k : Nat} (h : mkC g s I L) (hI : ∀ a, a ≠ k → I' a = I a) (hL : ∀ a, a ≠ k + 1 → L' a = L a) (hk : ∀ j, j ≤ gLv s → g j ≠ k ∧ 21 + 4 * j ≠ k) : mkC g s I' L' := fun j hj => ⟨⟨hsL_fr (h j hj).1.1 hI hL (hk j hj).1, (h j hj).1.2⟩, hsL_fr (h j hj).2.1 hI hL (hk j hj).2, (h j hj).2.2⟩
theorem ok_0 : okS [0] := ⟨by decide, fun i hi => by
  have e : i = 0 := by simpa using hi
  subst e
  exact ⟨0, vK_0⟩⟩
theorem ok_nil : okS [] := ⟨by decide, fun i hi => absurd hi (by simp)⟩
theorem vS_m {l : List Nat} : vS l ↔ ∀ K ∈ l, ∃ n, vK K n := by
  constructor
  · intro h K hK
    obtain ⟨i, hi, rfl⟩ := List.mem_iff_getElem.mp hK
    have := h i hi
    rw [gD hi] at this
    exact this
  · intro h i hi
    rw [gD hi]
    exact h _ (List.getElem_mem hi)
theorem okS_add {is : List (Option Nat)} {l l' : List Nat} (h : addI ins 200 is l = some l') (hl : okS l) (hi : ∀ K, some K ∈ is → ∃ n, vK K n) : okS l' := by
  obtain ⟨a1, a2, a3⟩ := (addI_iff pc_ins is l hl.1).mp h
  rw [a2]
  refine ⟨a3, vS_m.mpr fun K hK => ?_⟩
  rcases (unI_mem pc_ins is l).mp hK with h9 | h9
  · exact vS_m.mp hl.2 K h9
  · exact hi K h9
theorem rowL_0 {e : Nat → Int64} : rowL e [] := fun i hi => absurd hi (by simp)
theorem srt_0 : srt [] := List.Pairwise.nil
theorem addG_0 {r K : Nat} (h : 0 < r) : addI ins r [some K] [] = some [K] := by
  rw [addI1]
  unfold addG
  rw [if_neg (by simp), if_neg (by simp; omega)]
  rfl
/-- cleared, then one text -/
theorem c_X9_clear1 {d z : Nat} {N : Nat → Nat} {I : Nat → Nat → Int32} {L : Nat → Nat → Int64} {R : Nat → Nat → Option Nat} {Q : qP} {h r : Nat} (hS : stS z N h r) (g : ∀ I' : Nat → Nat → Int32, (∀ a, a ≠ h → I' a = I a) → hsL I' L h [] → Q none (z, N, I', L, R)) : qWP (d + 1) 102 [.ref h] (z, N, I, L, R) Q :=
  c_X9_clear hS (g _ (fun a ha => q2_ne ha) ⟨q2_at, rowL_0, srt_0⟩)
theorem c_X9_addF {d z : Nat} {N : Nat → Nat} {I : Nat → Nat → Int32} {L : Nat → Nat → Int64} {R : Nat → Nat → Option Nat} {Q : qP} {h r K : Nat} {l : List Nat} (hS : stS z N h r) (hC : hsL I L h l) (hlr : l.length ≤ r) (hK : K < 2 ^ 120) (g0 : addI ins r [some K] l = none → Q (some (.int 0)) (z, N, I, L, R)) (g1 : ∀ (l' : List Nat) (I' : Nat → Nat → Int32) (L' : Nat → Nat → Int64), addI ins r [some K] l = some l' → (∀ a, a ≠ h → I' a = I a) → (∀ a, a ≠ h + 1 → L' a = L a) → hsL I' L' h l' → Q (some (.int 1)) (z, N, I', L', R)) : qWP (d + 3) 109 [.ref h, .long (lN (K / 2 ^ 60)), .long (lN (K % 2 ^ 60))] (z, N, I, L, R) Q :=
  c_X9_addS hS hC hlr hK g0 fun l' e ea hr => g1 l' _ _ ea (fun a ha => q2_ne ha) (fun a ha => qRow_ne ha) (hsL_at hr (srt_addI _ _ hC.2.2 ea))
