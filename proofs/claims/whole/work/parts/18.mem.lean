/-! rows of the memory, and loops that count up -/
def uI {α : Type} (f : Nat → α) (j : Nat) (v : α) : Nat → α := fun i => if i = j then v else f i
theorem uI_at {α : Type} {f : Nat → α} {j : Nat} {v : α} : uI f j v j = v := by simp [uI]
theorem uI_nj {α : Type} {f : Nat → α} {j i : Nat} {v : α} (h : i ≠ j) : uI f j v i = f i := by simp [uI, h]
theorem uI_if {α : Type} {f : Nat → α} {j i : Nat} {v : α} : uI f j v i = if i = j then v else f i := rfl
theorem q2_r1 {α : Type} {f : Nat → Nat → α} {a j : Nat} {v : α} : q2 f a j v a = uI (f a) j v := by
  funext i; simp [q2, uI]
theorem q2_qRow {α : Type} {f : Nat → Nat → α} {a j : Nat} {g : Nat → α} {v : α} : q2 (qRow f a g) a j v = qRow f a (uI g j v) := by
  funext b i; by_cases h : b = a <;> simp [q2, uI, qRow, h]
theorem q2_qRow2 {α : Type} {f : Nat → Nat → α} {a b j : Nat} {g g' : Nat → α} {v : α} (h : a ≠ b) : q2 (qRow (qRow f a g) b g') a j v = qRow (qRow f a (uI g j v)) b g' := by
  funext c i
  by_cases hb : c = b
  · subst hb; simp [q2, qRow, Ne.symm h]
  · by_cases ha : c = a <;> simp [q2, uI, qRow, ha, hb, h]
theorem qRow_self {α : Type} {f : Nat → Nat → α} {a : Nat} : qRow f a (f a) = f := by
  funext b i; by_cases h : b = a <;> simp [qRow, h]
theorem qRow_qRow {α : Type} {f : Nat → Nat → α} {a : Nat} {g g' : Nat → α} : qRow (qRow f a g) a g' = qRow f a g' := by
  funext b i; by_cases h : b = a <;> simp [qRow, h]
theorem q2_q2 {α : Type} {f : Nat → Nat → α} {a j : Nat} {v : α} : q2 f a j v = qRow f a (uI (f a) j v) := by
  funext b i; by_cases h : b = a <;> simp [q2, uI, qRow, h]
/-- how far it is from k up to n -/
def dn (n k : Int32) : Nat := (n.toInt - k.toInt).toNat
theorem s1 {n k : Int32} (h : k < n) : (k + 1).toInt = k.toInt + 1 := by
  have h1 := Int32.lt_iff_toInt_lt.mp h
  have h2 := Int32.toInt_lt n
  have h3 := Int32.le_toInt k
  rw [Int32.toInt_add, show (1 : Int32).toInt = 1 from rfl]
  exact Int.bmod_eq_of_le (by omega) (by omega)
theorem dn_s {n k : Int32} (h : k < n) : dn n k = dn n (k + 1) + 1 := by
  have h1 := Int32.lt_iff_toInt_lt.mp h
  unfold dn
  rw [s1 h]
  omega
theorem up_ind (n : Int32) {P : Int32 → Prop} (hs : ∀ k, (k < n → P (k + 1)) → P k) (k : Int32) : P k := by
  have h : ∀ (m : Nat) (k : Int32), dn n k ≤ m → P k := by
    intro m
    induction m with
    | zero => exact fun k hk => hs k fun hl => by rw [dn_s hl] at hk; omega
    | succ m ih => exact fun k hk => hs k fun hl => ih _ (by rw [dn_s hl] at hk; omega)
  exact h _ k (Nat.le_refl _)
def upR {σ α : Type} (g : Int32 → σ → Sum σ α) (e : σ → α) : Nat → Int32 → σ → α
  | 0, _, x => e x
  | m + 1, k, x => match g k x with
    | .inl y => upR g e m (k + 1) y
    | .inr a => a
/-- a loop from k up to n, that may end early -/
def upS {σ α : Type} (n : Int32) (g : Int32 → σ → Sum σ α) (e : σ → α) (k : Int32) (x : σ) : α := upR g e (dn n k) k x
theorem dn_0 {n k : Int32} (h : ¬ k < n) : dn n k = 0 := by
  have h1 : ¬ k.toInt < n.toInt := fun h2 => h (Int32.lt_iff_toInt_lt.mpr h2)
  unfold dn
  omega
theorem upS_ge {σ α : Type} {n : Int32} {g : Int32 → σ → Sum σ α} {e : σ → α} {k : Int32} {x : σ} (h : ¬ k < n) : upS n g e k x = e x := by
  unfold upS
  rw [dn_0 h]
  rfl
theorem upS_on {σ α : Type} {n : Int32} {g : Int32 → σ → Sum σ α} {e : σ → α} {k : Int32} {x y : σ} (h : k < n) (hg : g k x = .inl y) : upS n g e k x = upS n g e (k + 1) y := by
  unfold upS
  rw [dn_s h]
  simp only [upR, hg]
theorem upS_out {σ α : Type} {n : Int32} {g : Int32 → σ → Sum σ α} {e : σ → α} {k : Int32} {x : σ} {a : α} (h : k < n) (hg : g k x = .inr a) : upS n g e k x = a := by
  unfold upS
  rw [dn_s h]
  simp only [upR, hg]
/-- a loop from k up to n to its end -/
def upF {σ : Type} (n : Int32) (g : Int32 → σ → σ) (k : Int32) (x : σ) : σ := upS n (fun k x => (.inl (g k x) : Sum σ σ)) id k x
theorem upF_ge {σ : Type} {n : Int32} {g : Int32 → σ → σ} {k : Int32} {x : σ} (h : ¬ k < n) : upF n g k x = x := upS_ge h
theorem upF_on {σ : Type} {n : Int32} {g : Int32 → σ → σ} {k : Int32} {x : σ} (h : k < n) : upF n g k x = upF n g (k + 1) (g k x) := upS_on h rfl
/-- two loops, side by side -/
theorem upS_rel {σ τ α β : Type} {n : Int32} {g : Int32 → σ → Sum σ α} {e : σ → α} {g' : Int32 → τ → Sum τ β} {e' : τ → β} (P : Int32 → σ → τ → Prop) (E : α → β → Prop)
    (he : ∀ k x y, ¬ k < n → P k x y → E (e x) (e' y))
    (hg : ∀ k x y, k < n → P k x y → match g k x, g' k y with
      | .inl x', .inl y' => P (k + 1) x' y'
      | .inr a, .inr b => E a b
      | .inl x', .inr b => ∀ m, (∀ a, a = upS n g e m x' → m = k + 1 → E a b)
      | .inr a, .inl y' => ∀ m, (∀ b, b = upS n g' e' m y' → m = k + 1 → E a b)) (k : Int32) : ∀ x y, P k x y → E (upS n g e k x) (upS n g' e' k y) := by
  refine up_ind n (P := fun k => ∀ x y, P k x y → E (upS n g e k x) (upS n g' e' k y)) (fun k ih x y h => ?_) k
  by_cases hk : k < n
  · have h1 := hg k x y hk h
    cases h2 : g k x with
    | inl x' => cases h3 : g' k y with
      | inl y' =>
        rw [h2, h3] at h1
        rw [upS_on hk h2, upS_on hk h3]
        exact ih hk _ _ h1
      | inr b =>
        rw [h2, h3] at h1
        rw [upS_on hk h2, upS_out hk h3]
        exact h1 _ _ rfl rfl
    | inr a => cases h3 : g' k y with
      | inl y' =>
        rw [h2, h3] at h1
        rw [upS_out hk h2, upS_on hk h3]
        exact h1 _ _ rfl rfl
      | inr b =>
        rw [h2, h3] at h1
        rw [upS_out hk h2, upS_out hk h3]
        exact h1
  · rw [upS_ge hk, upS_ge hk]
    exact he k x y hk h
