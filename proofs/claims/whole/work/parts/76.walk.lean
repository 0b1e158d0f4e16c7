/-! formulas, without the machine: one walk over the tape -/
def upD {α : Type} (f : Nat → α) (k : Nat) (v : α) : Nat → α := fun j => if j = k then v else f j
theorem upD_at {α : Type} {f : Nat → α} {k : Nat} {v : α} : upD f k v k = v := if_pos rfl
theorem upD_ne {α : Type} {f : Nat → α} {k j : Nat} {v : α} (h : ¬ j = k) : upD f k v j = f j := if_neg h
theorem upD_self {α : Type} {f : Nat → α} {k : Nat} : upD f k (f k) = f := by
  funext j
  unfold upD
  split
  · rename_i h; rw [h]
  · rfl
theorem upD_upD {α : Type} {f : Nat → α} {k : Nat} {v w : α} : upD (upD f k v) k w = upD f k w := by
  funext j
  unfold upD
  split <;> rfl
/-- a walk's state: level, rows, what rows made, how the level began, row begun, ended, spent -/
abbrev sg : Type := Nat × (Nat → List Nat) × (Nat → List Nat) × (Nat → Bool) × Bool × Bool × Bool
abbrev gLv (s : sg) : Nat := s.1
abbrev gRw (s : sg) : Nat → List Nat := s.2.1
abbrev gAl (s : sg) : Nat → List Nat := s.2.2.1
abbrev gOp (s : sg) : Nat → Bool := s.2.2.2.1
abbrev gBg (s : sg) : Bool := s.2.2.2.2.1
abbrev gEn (s : sg) : Bool := s.2.2.2.2.2.1
abbrev gSp (s : sg) : Bool := s.2.2.2.2.2.2
def sRow (s : sg) : sg := (gLv s, upD (gRw s) (gLv s) [0], gAl s, gOp s, false, gEn s, gSp s)
def sLev (n : Nat) (b : Bool) (s : sg) : sg := sRow (n, gRw s, upD (gAl s) n [], upD (gOp s) n b, gBg s, gEn s, gSp s)
def wSp (s : sg) : sg := (gLv s, gRw s, gAl s, gOp s, gBg s, gEn s, true)
def wAl (s : sg) (l : List Nat) : sg := (gLv s, gRw s, upD (gAl s) (gLv s) l, gOp s, gBg s, gEn s, gSp s)
def wRw (s : sg) (l : List Nat) : sg := (gLv s, upD (gRw s) (gLv s) l, gAl s, gOp s, gBg s, gEn s, gSp s)
def wBg (s : sg) : sg := (gLv s, gRw s, gAl s, gOp s, true, gEn s, gSp s)
def wEn (s : sg) : sg := (gLv s, gRw s, gAl s, gOp s, gBg s, true, gSp s)
def dLv (s : sg) : sg := (gLv s - 1, gRw s, gAl s, gOp s, gBg s, gEn s, gSp s)
def oSt (f : sg → List Nat → sg) (s : sg) : Option (List Nat) → sg
  | none => wSp s
  | some l => f s l
def eRow (s : sg) : sg := if gSp s = true then s else oSt wAl s (addI ins 200 ((gRw s (gLv s)).map some) (gAl s (gLv s)))
def aPc (P : List Nat) (s : sg) : sg := wBg (if gSp s = true then s else oSt wRw s (addI ins 200 (prI (gRw s (gLv s)) P) []))
def oPt (b : Bool) (s : sg) : sg := if b = true then (if gSp s = true then s else oSt wAl s (addG ins 200 0 (gAl s (gLv s)))) else s
def cLv (b : Bool) (s : sg) : sg := oPt b (eRow s)
/-- tokens: 0 white, 97 word, 1 none, else the byte -/
def stT (s : sg) (t : Int32) (K : Nat) : Option sg :=
  if t = 0 then some s else if gEn s = true then none else
  if t = 97 then some (aPc [K] s) else
  if t = 40 ∨ t = 91 then (if gLv s < 4 then some (sLev (gLv s + 1) (decide (t = 91)) s) else none) else
  if t = 41 ∨ t = 93 then (if 1 ≤ gLv s ∧ gBg s = true ∧ gOp s (gLv s) = decide (t = 93) then some (aPc (gAl (cLv (decide (t = 93)) s) (gLv s)) (dLv (cLv (decide (t = 93)) s))) else none) else
  if t = 124 then (if gBg s = true then some (sRow (eRow s)) else none) else
  if t = 46 then (if gBg s = true ∧ gLv s = 0 then some (wEn (eRow s)) else none) else none
def runF (n : Nat) (tk : Nat → Int32) (ky ln : Nat → Nat) : Nat → Nat → sg → Nat ⊕ sg
  | 0, _, s => if gEn s = true then .inr s else .inl n
  | f + 1, p, s => if p < n then (match stT s (tk p) (ky p) with
    | none => .inl p
    | some s' => runF n tk ky ln f (p + max 1 (ln p)) s') else if gEn s = true then .inr s else .inl n
theorem runF_f {n : Nat} {tk : Nat → Int32} {ky ln : Nat → Nat} : ∀ f p s, n - p ≤ f → runF n tk ky ln f p s = runF n tk ky ln (n - p) p s := by
  intro f
  induction f using Nat.strongRecOn with
  | ind f ih =>
    intro p s h
    cases f with
    | zero => rw [show n - p = 0 by omega]
    | succ f =>
      by_cases hp : p < n
      · obtain ⟨m, hm⟩ : ∃ m, n - p = m + 1 := ⟨n - p - 1, by omega⟩
        rw [hm, runF, runF, if_pos hp, if_pos hp]
        cases stT s (tk p) (ky p) with
        | none => rfl
        | some s' =>
          simp only
          rw [ih f (by omega) _ _ (by omega), ih m (by omega) _ _ (by omega)]
      · rw [show n - p = 0 by omega, runF, runF, if_neg hp]
def runT (n : Nat) (tk : Nat → Int32) (ky ln : Nat → Nat) (p : Nat) (s : sg) : Nat ⊕ sg := runF n tk ky ln (n - p) p s
theorem run_e {n : Nat} {tk : Nat → Int32} {ky ln : Nat → Nat} {p : Nat} {s : sg} (h : ¬ p < n) : runT n tk ky ln p s = if gEn s = true then .inr s else .inl n := by
  unfold runT
  rw [show n - p = 0 by omega, runF]
theorem run_f {n : Nat} {tk : Nat → Int32} {ky ln : Nat → Nat} {p : Nat} {s : sg} (h : p < n) (e : stT s (tk p) (ky p) = none) : runT n tk ky ln p s = .inl p := by
  unfold runT
  obtain ⟨m, hm⟩ : ∃ m, n - p = m + 1 := ⟨n - p - 1, by omega⟩
  rw [hm, runF, if_pos h, e]
theorem run_s {n : Nat} {tk : Nat → Int32} {ky ln : Nat → Nat} {p : Nat} {s s' : sg} (h : p < n) (e : stT s (tk p) (ky p) = some s') : runT n tk ky ln p s = runT n tk ky ln (p + max 1 (ln p)) s' := by
  unfold runT
  obtain ⟨m, hm⟩ : ∃ m, n - p = m + 1 := ⟨n - p - 1, by omega⟩
  rw [hm, runF, if_pos h, e]
  exact runF_f _ _ _ (by omega)
theorem eRow_un (s : sg) : eRow s = s ∨ eRow s = wSp s ∨ ∃ l, eRow s = wAl s l := by
  unfold eRow
  split
  · exact Or.inl rfl
  · cases addI ins 200 ((gRw s (gLv s)).map some) (gAl s (gLv s)) with
    | none => exact Or.inr (Or.inl rfl)
    | some l => exact Or.inr (Or.inr ⟨l, rfl⟩)
theorem oPt_un (b : Bool) (s : sg) : oPt b s = s ∨ oPt b s = wSp s ∨ ∃ l, oPt b s = wAl s l := by
  unfold oPt
  split
  · split
    · exact Or.inl rfl
    · cases addG ins 200 0 (gAl s (gLv s)) with
      | none => exact Or.inr (Or.inl rfl)
      | some l => exact Or.inr (Or.inr ⟨l, rfl⟩)
  · exact Or.inl rfl
theorem aPc_un (P : List Nat) (s : sg) : aPc P s = wBg s ∨ aPc P s = wBg (wSp s) ∨ ∃ l, aPc P s = wBg (wRw s l) := by
  unfold aPc
  split
  · exact Or.inl rfl
  · cases addI ins 200 (prI (gRw s (gLv s)) P) [] with
    | none => exact Or.inr (Or.inl rfl)
    | some l => exact Or.inr (Or.inr ⟨l, rfl⟩)
/-- what a set's change leaves -/
def sgK (s t : sg) : Prop := gLv t = gLv s ∧ gBg t = gBg s ∧ gEn t = gEn s ∧ gOp t = gOp s ∧ gRw t = gRw s ∧ (∀ j, ¬ j = gLv s → gAl t j = gAl s j) ∧ (gSp s = true → t = s)
theorem eRow_K (s : sg) : sgK s (eRow s) := by
  have h : gSp s = true → eRow s = s := fun h => if_pos h
  rcases eRow_un s with e | e | ⟨l, e⟩ <;> rw [e] at h ⊢
  · exact ⟨rfl, rfl, rfl, rfl, rfl, fun _ _ => rfl, h⟩
  · exact ⟨rfl, rfl, rfl, rfl, rfl, fun _ _ => rfl, h⟩
  · exact ⟨rfl, rfl, rfl, rfl, rfl, fun _ hj => upD_ne hj, h⟩
theorem oPt_K (b : Bool) (s : sg) : sgK s (oPt b s) := by
  have h : gSp s = true → oPt b s = s := fun h => by
    unfold oPt
    rw [if_pos h]
    split <;> rfl
  rcases oPt_un b s with e | e | ⟨l, e⟩ <;> rw [e] at h ⊢
  · exact ⟨rfl, rfl, rfl, rfl, rfl, fun _ _ => rfl, h⟩
  · exact ⟨rfl, rfl, rfl, rfl, rfl, fun _ _ => rfl, h⟩
  · exact ⟨rfl, rfl, rfl, rfl, rfl, fun _ hj => upD_ne hj, h⟩
theorem sgK_t {s t u : sg} (h : sgK s t) (h' : sgK t u) : sgK s u := by
  obtain ⟨a1, a2, a3, a4, a5, a6, a7⟩ := h
  obtain ⟨b1, b2, b3, b4, b5, b6, b7⟩ := h'
  refine ⟨b1.trans a1, b2.trans a2, b3.trans a3, b4.trans a4, b5.trans a5, fun j hj => (b6 j (by rw [a1]; exact hj)).trans (a6 j hj), fun h => ?_⟩
  have e := a7 h
  rw [b7 (by rw [e]; exact h), e]
theorem cLv_K (b : Bool) (s : sg) : sgK s (cLv b s) := sgK_t (eRow_K s) (oPt_K b _)
/-- what a piece's taking leaves -/
theorem aPc_K (P : List Nat) (s : sg) : gLv (aPc P s) = gLv s ∧ gBg (aPc P s) = true ∧ gEn (aPc P s) = gEn s ∧ gOp (aPc P s) = gOp s ∧ gAl (aPc P s) = gAl s ∧ (∀ j, ¬ j = gLv s → gRw (aPc P s) j = gRw s j) ∧ (gSp s = true → gSp (aPc P s) = true) := by
  have h : gSp s = true → aPc P s = wBg s := fun h => by unfold aPc; rw [if_pos h]
  refine ⟨?_, ?_, ?_, ?_, ?_, ?_, fun h9 => by rw [h h9]; exact h9⟩ <;> rcases aPc_un P s with e | e | ⟨l, e⟩ <;> rw [e] <;> first | rfl | (intro j hj; rfl) | (intro j hj; exact upD_ne hj)
/-- the tape's tokens -/
abbrev isLt (b : Int32) : Prop := 97 ≤ b ∧ b ≤ 122
def letF (b : Nat → Int32) : Nat → Nat → Nat
  | 0, _ => 0
  | f + 1, p => if isLt (b p) then letF b f (p + 1) + 1 else 0
def letN (n : Nat) (b : Nat → Int32) (p : Nat) : Nat := letF b (n - p) p
theorem let_on {n : Nat} {b : Nat → Int32} {p : Nat} (h : p < n) (hb : isLt (b p)) : letN n b p = letN n b (p + 1) + 1 := by
  unfold letN
  obtain ⟨m, hm⟩ : ∃ m, n - p = m + 1 := ⟨n - p - 1, by omega⟩
  rw [hm, show n - (p + 1) = m by omega, letF, if_pos hb]
theorem let_off {n : Nat} {b : Nat → Int32} {p : Nat} (h : ¬ (p < n ∧ isLt (b p))) : letN n b p = 0 := by
  unfold letN
  by_cases hp : p < n
  · obtain ⟨m, hm⟩ : ∃ m, n - p = m + 1 := ⟨n - p - 1, by omega⟩
    rw [hm, letF, if_neg fun h9 => h ⟨hp, h9⟩]
  · rw [show n - p = 0 by omega, letF]
theorem let_at {n : Nat} {b : Nat → Int32} : ∀ m p, n - p = m → letN n b p ≤ n - p ∧ ∀ k, k < letN n b p → p + k < n ∧ isLt (b (p + k)) := by
  intro m
  induction m with
  | zero => intro p h; rw [let_off (by omega)]; exact ⟨by omega, fun k hk => by omega⟩
  | succ m ih =>
    intro p h
    by_cases h9 : isLt (b p)
    · rw [let_on (by omega) h9]
      have g := ih (p + 1) (by omega)
      refine ⟨by omega, fun k hk => ?_⟩
      cases k with
      | zero => exact ⟨by omega, h9⟩
      | succ k =>
        have := g.2 k (by omega)
        rw [show p + (k + 1) = p + 1 + k by omega]
        exact this
    · rw [let_off fun h8 => h9 h8.2]; exact ⟨by omega, fun k hk => by omega⟩
def wKey (b : Nat → Int32) (p m : Nat) : Nat := ofD 24 fun k => if k < m then min ((b (p + k)).toInt.toNat - 95) 31 else 0
theorem wKey_d {b : Nat → Int32} {p m k : Nat} (hk : k < 24) : dg (wKey b p m) k = if k < m then min ((b (p + k)).toInt.toNat - 95) 31 else 0 := by
  unfold wKey
  rw [dg_ofD (fun k => by split <;> omega) hk]
theorem wKey_v {b : Nat → Int32} {p m : Nat} (hm : m ≤ 24) (h : ∀ k, k < m → isLt (b (p + k))) : vK (wKey b p m) m := by
  refine ⟨hm, ofD_lt (fun k => by split <;> omega) 24, fun k hk => ?_⟩
  rw [wKey_d hk]
  refine ⟨fun h9 => ?_, fun h9 => by rw [if_neg (by omega)]⟩
  have g := h k h9
  have g1 := Int32.le_iff_toInt_le.mp g.1
  have g2 := Int32.le_iff_toInt_le.mp g.2
  rw [show (97 : Int32).toInt = 97 from rfl] at g1
  rw [show (122 : Int32).toInt = 122 from rfl] at g2
  rw [if_pos h9]
  omega
def tkB (b : Int32) : Int32 := if b = 32 ∨ b = 10 then 0 else if b = 40 ∨ b = 41 ∨ b = 91 ∨ b = 93 ∨ b = 124 ∨ b = 46 then b else 1
def tkA (n : Nat) (b : Nat → Int32) (p : Nat) : Int32 := if 0 < letN n b p then (if 8 < letN n b p then 1 else 97) else tkB (b p)
/-- all of it -/
def fmR (n : Nat) (b : Nat → Int32) (p : Nat) (s : sg) : Nat ⊕ sg := runT n (tkA n b) (fun p => wKey b p (letN n b p)) (letN n b) p s
def sg0 (s : sg) : sg := sLev 0 false (gLv s, gRw s, gAl s, gOp s, gBg s, false, false)
