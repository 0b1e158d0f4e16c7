/-! formulas, without the machine: sets of texts -/
def ins (K : Nat) : List Nat → List Nat
  | [] => [K]
  | x :: l => if K < x then K :: x :: l else x :: ins K l
def addG (f : Nat → List Nat → List Nat) (r K : Nat) (l : List Nat) : Option (List Nat) := if K ∈ l then some l else if r ≤ l.length then none else some (f K l)
def addI (f : Nat → List Nat → List Nat) (r : Nat) : List (Option Nat) → List Nat → Option (List Nat)
  | [], l => some l
  | none :: _, _ => none
  | some K :: is, l => (addG f r K l).bind (addI f r is)
def unI (f : Nat → List Nat → List Nat) : List (Option Nat) → List Nat → List Nat
  | [], l => l
  | none :: is, l => unI f is l
  | some K :: is, l => unI f is (if K ∈ l then l else f K l)
def pc (f : Nat → List Nat → List Nat) : Prop := ∀ K l, (f K l).Perm (K :: l)
theorem pc_ins : pc ins := by
  intro K l
  induction l with
  | nil => exact .refl _
  | cons x l ih =>
    rw [ins]
    split
    · exact .refl _
    · exact (List.Perm.cons x ih).trans (List.Perm.swap K x l)
theorem pc_app : pc (fun K l => l ++ [K]) := fun K l => List.perm_append_singleton K l
theorem unI_len {f} (hf : pc f) : ∀ is l, l.length ≤ (unI f is l).length := by
  intro is
  induction is with
  | nil => intro l; exact Nat.le_refl _
  | cons i is ih =>
    intro l
    cases i with
    | none => exact ih l
    | some K =>
      rw [unI]
      refine Nat.le_trans ?_ (ih _)
      split
      · exact Nat.le_refl _
      · rw [(hf K l).length_eq]; simp
theorem unI_mem {f} (hf : pc f) {x : Nat} : ∀ is l, x ∈ unI f is l ↔ x ∈ l ∨ some x ∈ is := by
  intro is
  induction is with
  | nil => intro l; simp [unI]
  | cons i is ih =>
    intro l
    cases i with
    | none => rw [unI, ih]; simp
    | some K =>
      rw [unI, ih]
      by_cases h : K ∈ l
      · rw [if_pos h]
        simp only [List.mem_cons, Option.some.injEq]
        constructor
        · rintro (h1 | h1)
          · exact Or.inl h1
          · exact Or.inr (Or.inr h1)
        · rintro (h1 | h1 | h1)
          · exact Or.inl h1
          · exact Or.inl (h1 ▸ h)
          · exact Or.inr h1
      · rw [if_neg h, (hf K l).mem_iff]
        simp only [List.mem_cons, Option.some.injEq]
        constructor
        · rintro ((h1 | h1) | h1)
          · exact Or.inr (Or.inl h1)
          · exact Or.inl h1
          · exact Or.inr (Or.inr h1)
        · rintro (h1 | h1 | h1)
          · exact Or.inl (Or.inr h1)
          · exact Or.inl (Or.inl h1)
          · exact Or.inr h1
theorem unI_nd {f} (hf : pc f) : ∀ is l, l.Nodup → (unI f is l).Nodup := by
  intro is
  induction is with
  | nil => intro l h; exact h
  | cons i is ih =>
    intro l h
    cases i with
    | none => exact ih l h
    | some K =>
      rw [unI]
      refine ih _ ?_
      split
      · exact h
      · rename_i h9
        exact (hf K l).nodup_iff.mpr (List.nodup_cons.mpr ⟨h9, h⟩)
theorem addI_iff {f} (hf : pc f) {r : Nat} {x : List Nat} : ∀ is l, l.length ≤ r → (addI f r is l = some x ↔ none ∉ is ∧ x = unI f is l ∧ (unI f is l).length ≤ r) := by
  intro is
  induction is with
  | nil =>
    intro l h
    simp only [addI, unI, Option.some.injEq, List.not_mem_nil, not_false_eq_true, true_and]
    exact ⟨fun e => ⟨e.symm, h⟩, fun e => e.1.symm⟩
  | cons i is ih =>
    intro l h
    cases i with
    | none => simp [addI]
    | some K =>
      rw [addI, unI]
      unfold addG
      by_cases h1 : K ∈ l
      · rw [if_pos h1, if_pos h1, Option.bind_some, ih l h]
        simp
      · rw [if_neg h1, if_neg h1]
        by_cases h2 : r ≤ l.length
        · rw [if_pos h2, Option.bind_none]
          have := unI_len hf is (f K l)
          rw [(hf K l).length_eq, List.length_cons] at this
          constructor
          · intro h9; exact absurd h9 (by simp)
          · rintro ⟨_, _, h9⟩; omega
        · rw [if_neg h2, Option.bind_some, ih (f K l) (by rw [(hf K l).length_eq, List.length_cons]; omega)]
          simp
theorem addI_rel {f g} (hf : pc f) (hg : pc g) {r : Nat} {is js : List (Option Nat)} {l m : List Nat} (hi : ∀ x, x ∈ is ↔ x ∈ js) (hp : l.Perm m) (hl : l.length ≤ r) (hn : l.Nodup) :
    (∃ x y, addI f r is l = some x ∧ addI g r js m = some y ∧ x.Perm y ∧ x.Nodup ∧ x.length ≤ r) ∨ (addI f r is l = none ∧ addI g r js m = none) := by
  have hm : m.length ≤ r := by rw [← hp.length_eq]; exact hl
  have hq : (unI f is l).Perm (unI g js m) := (List.perm_ext_iff_of_nodup (unI_nd hf is l hn) (unI_nd hg js m (hp.nodup_iff.mp hn))).mpr fun x => by rw [unI_mem hf, unI_mem hg, hp.mem_iff, hi]
  by_cases h : none ∉ is ∧ (unI f is l).length ≤ r
  · exact Or.inl ⟨_, _, (addI_iff hf is l hl).mpr ⟨h.1, rfl, h.2⟩, (addI_iff hg js m hm).mpr ⟨fun h9 => h.1 ((hi _).mpr h9), rfl, by rw [← hq.length_eq]; exact h.2⟩, hq, unI_nd hf is l hn, h.2⟩
  · refine Or.inr ⟨?_, ?_⟩
    · cases e : addI f r is l with
      | none => rfl
      | some x =>
        have g := (addI_iff hf is l hl).mp e
        exact absurd ⟨g.1, g.2.2⟩ h
    · cases e : addI g r js m with
      | none => rfl
      | some x =>
        have g := (addI_iff hg js m hm).mp e
        exact absurd ⟨fun h9 => g.1 ((hi _).mp h9), by rw [hq.length_eq]; exact g.2.2⟩ h
/-- in order -/
def srt (l : List Nat) : Prop := l.Pairwise (· < ·)
theorem srt_nd {l : List Nat} (h : srt l) : l.Nodup := List.Pairwise.imp (fun h => Nat.ne_of_lt h) h
theorem srt_ins {K : Nat} : ∀ l, srt l → K ∉ l → srt (ins K l) := by
  intro l
  induction l with
  | nil => intro _ _; exact List.pairwise_singleton _ _
  | cons x l ih =>
    intro h hK
    obtain ⟨h1, h2⟩ := List.pairwise_cons.mp h
    rw [ins]
    by_cases h3 : K < x
    · rw [if_pos h3]
      refine List.pairwise_cons.mpr ⟨fun y hy => ?_, h⟩
      rcases List.mem_cons.mp hy with rfl | hy
      · exact h3
      · have := h1 y hy; omega
    · rw [if_neg h3]
      refine List.pairwise_cons.mpr ⟨fun y hy => ?_, ih h2 fun h9 => hK (List.mem_cons_of_mem _ h9)⟩
      rcases List.mem_cons.mp ((pc_ins K l).mem_iff.mp hy) with rfl | hy
      · have : ¬ y = x := fun e => hK (e ▸ List.mem_cons_self)
        omega
      · exact h1 y hy
theorem srt_addG {r K : Nat} {l x : List Nat} (h : srt l) (e : addG ins r K l = some x) : srt x := by
  unfold addG at e
  split at e
  · obtain rfl := Option.some.inj e; exact h
  · rename_i h1
    split at e
    · exact absurd e (by simp)
    · obtain rfl := Option.some.inj e; exact srt_ins l h h1
theorem srt_addI {r : Nat} {x : List Nat} : ∀ is l, srt l → addI ins r is l = some x → srt x := by
  intro is
  induction is with
  | nil => intro l h e; obtain rfl := Option.some.inj e; exact h
  | cons i is ih =>
    intro l h e
    cases i with
    | none => exact absurd e (by simp [addI])
    | some K =>
      rw [addI] at e
      cases e1 : addG ins r K l with
      | none => rw [e1] at e; exact absurd e (by simp)
      | some y => rw [e1] at e; exact ih y (srt_addG h e1) e
theorem srt_eq : ∀ {l m : List Nat}, srt l → srt m → l.Perm m → l = m := by
  intro l
  induction l with
  | nil => intro m _ _ hp; exact (List.Perm.nil_eq hp)
  | cons x l ih =>
    intro m hl hm hp
    cases m with
    | nil => exact absurd hp.length_eq (by simp)
    | cons y m =>
      obtain ⟨a1, a2⟩ := List.pairwise_cons.mp hl
      obtain ⟨b1, b2⟩ := List.pairwise_cons.mp hm
      have e : x = y := by
        have hx := hp.mem_iff.mp (List.mem_cons_self (a := x) (l := l))
        have hy := hp.mem_iff.mpr (List.mem_cons_self (a := y) (l := m))
        rcases List.mem_cons.mp hx with h | h
        · exact h
        · rcases List.mem_cons.mp hy with h' | h'
          · exact h'.symm
          · have := a1 y h'; have := b1 x h; omega
      subst e
      rw [ih a2 b2 (List.perm_cons x |>.mp hp)]
theorem srt_cnt : ∀ (l : List Nat) (i : Nat), srt l → (h : i < l.length) → l.countP (fun x => decide (x < l[i])) = i := by
  intro l
  induction l with
  | nil => intro i _ h; exact absurd h (by simp)
  | cons x l ih =>
    intro i hl h
    obtain ⟨a1, a2⟩ := List.pairwise_cons.mp hl
    cases i with
    | zero =>
      rw [List.countP_eq_zero.mpr]
      intro y hy
      simp only [List.getElem_cons_zero, decide_eq_true_eq]
      rcases List.mem_cons.mp hy with rfl | hy
      · omega
      · have := a1 y hy; omega
    | succ i =>
      have h' : i < l.length := by simpa using h
      rw [List.countP_cons]
      simp only [List.getElem_cons_succ]
      rw [ih i a2 h', if_pos (by simpa using a1 _ (List.getElem_mem h'))]
theorem rank_eq {l m : List Nat} (hl : srt l) (hp : l.Perm m) {i : Nat} (h : i < l.length) : m.countP (fun x => decide (x < l[i])) = i := by
  rw [← hp.countP_eq]
  exact srt_cnt l i hl h
theorem ins_at {K : Nat} : ∀ (l : List Nat) (a : Nat), a ≤ l.length → srt l → K ∉ l → (∀ i (h : i < l.length), i < a → l[i] < K) → (∀ i (h : i < l.length), a ≤ i → K ≤ l[i]) → ins K l = l.take a ++ K :: l.drop a := by
  intro l
  induction l with
  | nil => intro a ha _ _ _ _; simp at ha; subst ha; rfl
  | cons x l ih =>
    intro a ha hs hK h1 h2
    cases a with
    | zero =>
      have h3 : K ≤ x := h2 0 (by simp) (by omega)
      have h4 : ¬ K = x := fun e => hK (e ▸ List.mem_cons_self)
      rw [ins, if_pos (by omega)]
      rfl
    | succ a =>
      have h3 : x < K := h1 0 (by simp) (by omega)
      rw [ins, if_neg (by omega), ih a (by simpa using ha) (List.pairwise_cons.mp hs).2 (fun h9 => hK (List.mem_cons_of_mem _ h9)) (fun i h hi => ?_) (fun i h hi => ?_)]
      · rfl
      · have := h1 (i + 1) (by simpa using h) (by omega)
        simpa using this
      · have := h2 (i + 1) (by simpa using h) (by omega)
        simpa using this
/-- pairs -/
def prI (A B : List Nat) : List (Option Nat) := A.flatMap fun a => B.map fun b => cat a b
theorem prI_mem {A B A' B' : List Nat} (hA : A.Perm A') (hB : B.Perm B') (x : Option Nat) : x ∈ prI A B ↔ x ∈ prI A' B' := by
  simp only [prI, List.mem_flatMap, List.mem_map, hA.mem_iff, hB.mem_iff]
theorem cat_nil {K : Nat} : cat 0 K = some K := by
  unfold cat
  rw [if_pos (lenK_v vK_0)]
theorem prI_nil {P : List Nat} : prI [0] P = P.map some := by
  simp [prI, cat_nil]
theorem addI_self {P : List Nat} (h : srt P) (hn : P.length ≤ 200) : addI ins 200 (P.map some) [] = some P := by
  have h1 : (unI ins (P.map some) []).Perm P := (List.perm_ext_iff_of_nodup (unI_nd pc_ins _ _ .nil) (srt_nd h)).mpr fun x => by rw [unI_mem pc_ins]; simp
  have h2 := (addI_iff (x := unI ins (P.map some) []) pc_ins (r := 200) (P.map some) [] (by simp)).mpr ⟨by simp, rfl, by rw [h1.length_eq]; exact hn⟩
  rw [h2, srt_eq (srt_addI _ _ .nil h2) h h1]
