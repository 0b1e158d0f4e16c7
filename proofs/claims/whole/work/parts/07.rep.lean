/-! ===== the machine's own state beside the plain one ===== -/
/-- class numbers and places of fields, classes of rows; where our cells begin; the script's cell, the table's cell; the script's size and ints -/
abbrev qCx : Type := va_G × (Nat → ClassId) × Nat × Nat × Nat × Nat × (Nat → Int32)
def qKA : Nat → Int32 := fun j => ([-1, 0, 0, 0, 3, 0] : List Int32).getD j 0
abbrev qAr (G : qCx) : Nat → Prop := fun q => G.2.2.1 ≤ q
def qV (ad : Nat → Nat) : Value → Value
  | .ref k => .ref (ad k)
  | v => v
def qLs (ad : Nat → Nat) (ls : List (Nat × Value)) : List (Nat × Value) := ls.map (fun q => (q.1, qV ad q.2))
def qFv (ad : Nat → Nat) (M : qM) (k f : Nat) : Value := match Nat.beq (qTf (qK k) f) 2 with
  | true => va_rf ((M.2.2.2.2 k f).map ad)
  | false => .int (M.2.2.1 k f)
def qF (G : qCx) (ad : Nat → Nat) (M : qM) (k : Nat) : va_E := match Nat.blt (qK k) 13 with
  | true => .inr (qK k, (List.range (qNf (qK k))).map (qFv ad M k))
  | false => .inl (G.2.1 (qK k), (qLen M.2.1 k, match Nat.beq (qK k) 15 with
    | true => .inr (.inl (M.2.2.2.1 k))
    | false => match Nat.beq (qK k) 17 with
      | true => .inr (.inr (.inr (.inr (fun j => (M.2.2.2.2 k j).map ad))))
      | false => .inl (M.2.2.1 k)))
def qW (ad : Nat → Nat) (n : Nat) (F : Nat → va_E) : va_W := (List.range n).map (fun k => (ad (k + 2), F (k + 2)))
def qTys (G : qCx) : List (ClassId × FieldType) := [(G.2.1 13, .byte), (G.2.1 14, .int), (G.2.1 15, .long), (G.2.1 16, .boolean), (G.2.1 17, .object RX9)]
def qRb (M : qM) : Prop := ∀ k f c : Nat, M.2.2.2.2 k f = some c → c < M.1 + 2
/-- the heap holds the plain machine's cells -/
def qRep (G : qCx) (ad : Nat → Nat) (M : qM) (H : Heap) : Prop :=
  va_P G.1 vwCl (qW ad M.1 (qF G ad M)) H ∧ va_D (qAr G) (qW ad M.1 (qF G ad M)) ∧ ad 0 = G.2.2.2.1 ∧ ad 1 = G.2.2.2.2.1 ∧ M.2.1 0 = G.2.2.2.2.2.1 ∧ M.2.2.1 0 = G.2.2.2.2.2.2 ∧ M.2.2.1 1 = qKA ∧ qRb M
/-- what a state knows of the tables -/
def qOn (G : qCx) (s : State) : Prop :=
  va_K G.1 vwCl (qTys G) s ∧ va_T .int G.2.2.2.1 G.2.2.2.2.2.1 (fun j => .int (G.2.2.2.2.2.2 j)) (qAr G) s s.heap ∧ va_T .int G.2.2.2.2.1 6 (fun j => .int (qKA j)) (qAr G) s s.heap ∧
  va_Z "InscribedStones" "KIND_ABOVE" "[I" (.ref G.2.2.2.2.1) (qAr G) s s.heap ∧ (∀ e ∈ qMN, va_Nw (.methodLinkNest (qCn e.1) e.2.2 (qLnY e.2.1) "InscribedStones") s) ∧
  va_Nw (.fieldLinkNest RX5 29 "InscribedStones" "KIND_ABOVE" "[I" "InscribedStones") s ∧ va_AO RX9 s
theorem qOn.to {G : qCx} {s U : State} (hW : s.WarmedH U.vm) (hU : ∀ a : Nat, a < s.heap.size → ¬ qAr G a → U.heap[a]? = s.heap[a]?) (h : qOn G s) : qOn G U := by
  obtain ⟨h1, h2, h3, h4, h5, h6, h7⟩ := h
  refine ⟨va_K.moved hW.alike h1, (h2.kept hU).moved hW.alike, (h3.kept hU).moved hW.alike, ?_, fun e he => va_Nw.warmM hW (h5 e he), va_Nw.warmF hW h6, va_AO.moved hW.alike h7⟩
  exact (h4.kept hU).moved hW.alike
theorem qOn.same {G : qCx} {s U : State} (hv : s.vm = U.vm) (hh : s.heap = U.heap) (h : qOn G s) : qOn G U := by
  obtain ⟨h1, h2, h3, h4, h5, h6, h7⟩ := h
  have ha : s.vm.Alike U.vm := by rw [← hv]; exact Vm.Alike.refl _
  rw [hh] at h2 h3 h4
  exact ⟨va_K.moved ha h1, h2.moved ha, h3.moved ha, h4.moved ha, fun e he => va_Nw.same rfl hv (h5 e he), va_Nw.same rfl hv h6, va_AO.moved ha h7⟩
theorem qV_cat (ad : Nat → Nat) (v : Value) : (qV ad v).category = v.category := by cases v <;> rfl
theorem qC2_cat (v : Value) : qC2 v = (v.category == 2) := by cases v <;> rfl
theorem qCat_sum (ad : Nat → Nat) (l : List Value) : ((l.map (qV ad)).map fun v => v.category).sum = qCat l := by
  induction l with
  | nil => rfl
  | cons v r ih =>
    simp only [List.map_cons, List.sum_cons, qCat, ih, qV_cat]
    cases v <;> simp [qC2, Value.category] <;> omega
theorem qCat_sl (ad : Nat → Nat) (l : List Value) : (lg_sl (l.map (qV ad))).length = qCat l := by
  induction l with
  | nil => rfl
  | cons v r ih =>
    have e : lg_sl ((v :: r).map (qV ad)) = (if (qV ad v).category = 2 then [Slot.val (qV ad v), .second] else [.val (qV ad v)]) ++ lg_sl (r.map (qV ad)) := by
      simp [lg_sl]
    rw [e, List.length_append, ih, qCat, qV_cat]
    cases v <;> simp [qC2, Value.category] <;> omega
theorem q_blt {a b : Nat} : Nat.blt a b = true ↔ a < b := ⟨fun h => Nat.le_of_ble_eq_true h, fun h => Nat.ble_eq_true_of_le h⟩
theorem q_beq {a b : Nat} : Nat.beq a b = (a == b) := by
  rw [Bool.eq_iff_iff]
  simp [Nat.beq_eq]
theorem qRm1_map (ad : Nat → Nat) (i : Nat) (ls : List (Nat × Value)) : (qLs ad ls).filter (fun q => !(q.1 == i) && !(q.1 + 1 == i && q.2.category == 2)) = qLs ad (qRm1 i ls) := by
  induction ls with
  | nil => rfl
  | cons q r ih =>
    obtain ⟨j, v⟩ := q
    have ih' : List.filter (fun q => !(q.1 == i) && !(q.1 + 1 == i && q.2.category == 2)) (r.map (fun q => (q.1, qV ad q.2))) = (qRm1 i r).map (fun q => (q.1, qV ad q.2)) := ih
    simp only [qLs, List.map_cons, qRm1, List.filter_cons, qV_cat, qC2_cat, ih']
    simp only [q_beq]
    cases (j == i) <;> cases (j + 1 == i) <;> cases (v.category == 2) <;> simp
theorem qRm2_map (ad : Nat → Nat) (i : Nat) (ls : List (Nat × Value)) : (qLs ad ls).filter (fun q => !(q.1 == i) && (!(q.1 == i + 1) && !(q.1 + 1 == i && q.2.category == 2))) = qLs ad (qRm2 i ls) := by
  induction ls with
  | nil => rfl
  | cons q r ih =>
    obtain ⟨j, v⟩ := q
    have ih' : List.filter (fun q => !(q.1 == i) && (!(q.1 == i + 1) && !(q.1 + 1 == i && q.2.category == 2))) (r.map (fun q => (q.1, qV ad q.2))) = (qRm2 i r).map (fun q => (q.1, qV ad q.2)) := ih
    simp only [qLs, List.map_cons, qRm2, List.filter_cons, qV_cat, qC2_cat, ih']
    simp only [q_beq]
    cases (j == i) <;> cases (j == i + 1) <;> cases (j + 1 == i) <;> cases (v.category == 2) <;> simp
theorem qLk_at {ad : Nat → Nat} {lsA : Array Slot} {nL : Nat} {ls : List (Nat × Value)} (h : lv_has lsA nL (qLs ad ls)) {k : Nat} {v : Value} (hk : qLk ls k = some v) : lsA[k]? = some (.val (qV ad v)) := by
  have key : ∀ l : List (Nat × Value), qLk l k = some v → (k, v) ∈ l := by
    intro l
    induction l with
    | nil => intro h; cases h
    | cons q r ih =>
      obtain ⟨i, w⟩ := q
      intro h
      unfold qLk at h
      cases hb : Nat.beq i k with
      | true =>
        rw [hb] at h
        cases h
        have := Nat.eq_of_beq_eq_true hb
        subst this
        exact List.mem_cons_self
      | false =>
        rw [hb] at h
        exact List.mem_cons_of_mem _ (ih h)
  exact h.2.2 (k, qV ad v) (List.mem_map_of_mem (f := fun q : Nat × Value => (q.1, qV ad q.2)) (key ls hk))
theorem qLk_mem {ls : List (Nat × Value)} {k : Nat} {v : Value} (hk : qLk ls k = some v) : (k, v) ∈ ls := by
  induction ls with
  | nil => cases hk
  | cons q r ih =>
    obtain ⟨i, w⟩ := q
    unfold qLk at hk
    cases hb : Nat.beq i k with
    | true =>
      rw [hb] at hk
      cases hk
      have := Nat.eq_of_beq_eq_true hb
      subst this
      exact List.mem_cons_self
    | false =>
      rw [hb] at hk
      exact List.mem_cons_of_mem _ (ih hk)
/-! the world of the cells -/
theorem qW_get {ad : Nat → Nat} {n a : Nat} {F : Nat → va_E} (h2 : 2 ≤ a) (h : a < n + 2) : (qW ad n F)[a - 2]? = some (ad a, F a) := by
  have e : a - 2 + 2 = a := by omega
  simp [qW, List.getElem?_map, List.getElem?_range (show a - 2 < n by omega), e]
theorem qW_ext {ad ad' : Nat → Nat} {n : Nat} {F F' : Nat → va_E} (h : ∀ k, 2 ≤ k → k < n + 2 → ad k = ad' k ∧ F k = F' k) : qW ad n F = qW ad' n F' := by
  unfold qW
  apply List.map_congr_left
  intro k hk
  have := List.mem_range.mp hk
  obtain ⟨h1, h2⟩ := h (k + 2) (by omega) (by omega)
  rw [h1, h2]
theorem qW_set {ad : Nat → Nat} {n a : Nat} {F F' : Nat → va_E} {e : va_E} (h2 : 2 ≤ a) (h : a < n + 2) (he : F' a = e) (hne : ∀ k, k ≠ a → F' k = F k) : (qW ad n F).set (a - 2) (ad a, e) = qW ad n F' := by
  apply List.ext_getElem?
  intro i
  rw [List.getElem?_set]
  by_cases hi : a - 2 = i
  · subst hi
    rw [if_pos rfl, if_pos (by simp [qW]; omega), qW_get h2 h, he]
  · rw [if_neg hi]
    by_cases hl : i < n
    · have e1 : i = (i + 2) - 2 := by omega
      rw [e1, qW_get (by omega) (by omega), qW_get (by omega) (by omega), hne _ (by omega)]
    · simp [qW, List.getElem?_range, hl]
theorem qW_push {ad : Nat → Nat} {n q : Nat} {F F' : Nat → va_E} {e : va_E} (he : F' (n + 2) = e) (hF : ∀ k, 2 ≤ k → k < n + 2 → F' k = F k) : qW ad n F ++ [(q, e)] = qW (fun k => if k = n + 2 then q else ad k) (n + 1) F' := by
  unfold qW
  rw [List.range_succ, List.map_append]
  congr 1
  · apply List.map_congr_left
    intro k hk
    have := List.mem_range.mp hk
    show (ad (k + 2), F (k + 2)) = (if k + 2 = n + 2 then q else ad (k + 2), F' (k + 2))
    rw [if_neg (by omega), hF (k + 2) (by omega) (by omega)]
  · simp [he]
theorem q_set_map {n f : Nat} {g g' : Nat → Value} {v : Value} (h : g' f = v) (h2 : ∀ j, j ≠ f → g' j = g j) : ((List.range n).map g).set f v = (List.range n).map g' := by
  apply List.ext_getElem?
  intro i
  rw [List.getElem?_set]
  by_cases hi : f = i
  · subst hi
    rw [if_pos rfl]
    by_cases hl : f < n
    · rw [if_pos (by simpa using hl)]
      simp [List.getElem?_map, List.getElem?_range hl, h]
    · rw [if_neg (by simpa using hl)]
      simp [List.getElem?_map, List.getElem?_range, hl]
  · rw [if_neg hi]
    by_cases hl : i < n
    · simp [List.getElem?_map, List.getElem?_range hl, h2 i (Ne.symm hi)]
    · simp [List.getElem?_map, List.getElem?_range, hl]
theorem q2_ne {α : Type} {f : Nat → Nat → α} {a j k : Nat} {v : α} (h : k ≠ a) : q2 f a j v k = f k := by
  funext i
  simp [q2, h]
theorem q2_at {α : Type} {f : Nat → Nat → α} {a j : Nat} {v : α} : q2 f a j v a j = v := by simp [q2]
theorem q2_nj {α : Type} {f : Nat → Nat → α} {a j i : Nat} {v : α} (h : i ≠ j) : q2 f a j v a i = f a i := by simp [q2, h]
theorem qRow_ne {α : Type} {f : Nat → Nat → α} {a k : Nat} {g : Nat → α} (h : k ≠ a) : qRow f a g k = f k := by simp [qRow, h]
theorem qRow_at {α : Type} {f : Nat → Nat → α} {a : Nat} {g : Nat → α} : qRow f a g a = g := by simp [qRow]
theorem qUp_ne {f : Nat → Nat} {a k v : Nat} (h : k ≠ a) : qUp f a v k = f k := by simp [qUp, h]
theorem qLen_ne {f : Nat → Nat} {a k v : Nat} (h : k ≠ a) : qLen (qUp f a v) k = qLen f k := by simp [qLen, qUp, h]
/-- a cell is the same where its own parts are -/
theorem qF_eq {G : qCx} {ad ad' : Nat → Nat} {M M' : qM} {k : Nat} (h1 : qLen M'.2.1 k = qLen M.2.1 k) (h2 : M'.2.2.1 k = M.2.2.1 k) (h3 : M'.2.2.2.1 k = M.2.2.2.1 k) (h4 : ∀ j, (M'.2.2.2.2 k j).map ad' = (M.2.2.2.2 k j).map ad) : qF G ad' M' k = qF G ad M k := by
  unfold qF
  rw [h1, h2, h3]
  have e : qFv ad' M' k = qFv ad M k := by
    funext f
    unfold qFv
    rw [h2, h4]
  have e2 : (fun j => (M'.2.2.2.2 k j).map ad') = (fun j => (M.2.2.2.2 k j).map ad) := funext h4
  rw [e, e2]
theorem qF_obj {G : qCx} {ad : Nat → Nat} {M : qM} {k ci : Nat} (h : qK k = ci) (hc : ci < 13) : qF G ad M k = .inr (ci, (List.range (qNf ci)).map (qFv ad M k)) := by
  unfold qF
  rw [h]
  have : Nat.blt ci 13 = true := q_blt.mpr hc
  rw [this]
theorem qF_int {G : qCx} {ad : Nat → Nat} {M : qM} {k c : Nat} (h : qK k = c) (hc : c = 13 ∨ c = 14 ∨ c = 16) : qF G ad M k = .inl (G.2.1 c, (qLen M.2.1 k, .inl (M.2.2.1 k))) := by
  unfold qF
  rw [h]
  rcases hc with rfl | rfl | rfl <;> rfl
theorem qF_long {G : qCx} {ad : Nat → Nat} {M : qM} {k : Nat} (h : qK k = 15) : qF G ad M k = .inl (G.2.1 15, (qLen M.2.1 k, .inr (.inl (M.2.2.2.1 k)))) := by
  unfold qF
  rw [h]
  rfl
theorem qF_ref {G : qCx} {ad : Nat → Nat} {M : qM} {k : Nat} (h : qK k = 17) : qF G ad M k = .inl (G.2.1 17, (qLen M.2.1 k, .inr (.inr (.inr (.inr (fun j => (M.2.2.2.2 k j).map ad)))))) := by
  unfold qF
  rw [h]
  rfl
/-! shapes of the stack -/
theorem qI1_of {st : List Value} {f : Int32 → List Value → Prop} (h : qI1 st f) : ∃ x r, st = .int x :: r ∧ f x r := by
  unfold qI1 at h
  split at h
  · exact ⟨_, _, rfl, h⟩
  · exact h.elim
theorem qI2_of {st : List Value} {f : Int32 → Int32 → List Value → Prop} (h : qI2 st f) : ∃ x y r, st = .int y :: .int x :: r ∧ f x y r := by
  unfold qI2 at h
  split at h
  · exact ⟨_, _, _, rfl, h⟩
  · exact h.elim
theorem qL1_of {st : List Value} {f : Int64 → List Value → Prop} (h : qL1 st f) : ∃ x r, st = .long x :: r ∧ f x r := by
  unfold qL1 at h
  split at h
  · exact ⟨_, _, rfl, h⟩
  · exact h.elim
theorem qL2_of {st : List Value} {f : Int64 → Int64 → List Value → Prop} (h : qL2 st f) : ∃ x y r, st = .long y :: .long x :: r ∧ f x y r := by
  unfold qL2 at h
  split at h
  · exact ⟨_, _, _, rfl, h⟩
  · exact h.elim
theorem qLI_of {st : List Value} {f : Int64 → Int32 → List Value → Prop} (h : qLI st f) : ∃ x y r, st = .int y :: .long x :: r ∧ f x y r := by
  unfold qLI at h
  split at h
  · exact ⟨_, _, _, rfl, h⟩
  · exact h.elim
theorem qA1_of {st : List Value} {f : Nat → List Value → Prop} (h : qA1 st f) : ∃ a r, st = .ref a :: r ∧ f a r := by
  unfold qA1 at h
  split at h
  · exact ⟨_, _, rfl, h⟩
  · exact h.elim
theorem qAn_of {st : List Value} {g : List Value → Prop} {f : Nat → List Value → Prop} (h : qAn st g f) : (∃ a r, st = .ref a :: r ∧ f a r) ∨ ∃ r, st = .null :: r ∧ g r := by
  unfold qAn at h
  split at h
  · exact Or.inl ⟨_, _, rfl, h⟩
  · exact Or.inr ⟨_, rfl, h⟩
  · exact h.elim
theorem qAI_of {st : List Value} {f : Nat → Int32 → List Value → Prop} (h : qAI st f) : ∃ a i r, st = .int i :: .ref a :: r ∧ f a i r := by
  unfold qAI at h
  split at h
  · exact ⟨_, _, _, rfl, h⟩
  · exact h.elim
theorem qAII_of {st : List Value} {f : Nat → Int32 → Int32 → List Value → Prop} (h : qAII st f) : ∃ a i x r, st = .int x :: .int i :: .ref a :: r ∧ f a i x r := by
  unfold qAII at h
  split at h
  · exact ⟨_, _, _, _, rfl, h⟩
  · exact h.elim
theorem qAIL_of {st : List Value} {f : Nat → Int32 → Int64 → List Value → Prop} (h : qAIL st f) : ∃ a i x r, st = .long x :: .int i :: .ref a :: r ∧ f a i x r := by
  unfold qAIL at h
  split at h
  · exact ⟨_, _, _, _, rfl, h⟩
  · exact h.elim
theorem qAIA_of {st : List Value} {f : Nat → Int32 → Option Nat → List Value → Prop} (h : qAIA st f) : ∃ a i v r, st = va_rf v :: .int i :: .ref a :: r ∧ f a i v r := by
  unfold qAIA at h
  split at h
  · exact ⟨_, _, some _, _, rfl, h⟩
  · exact ⟨_, _, none, _, rfl, h⟩
  · exact h.elim
theorem qIA_of {st : List Value} {f : Nat → Int32 → List Value → Prop} (h : qIA st f) : ∃ a x r, st = .int x :: .ref a :: r ∧ f a x r := by
  unfold qIA at h
  split at h
  · exact ⟨_, _, _, rfl, h⟩
  · exact h.elim
theorem qVA_of {st : List Value} {f : Nat → Option Nat → List Value → Prop} (h : qVA st f) : ∃ a v r, st = va_rf v :: .ref a :: r ∧ f a v r := by
  unfold qVA at h
  split at h
  · exact ⟨_, some _, _, rfl, h⟩
  · exact ⟨_, none, _, rfl, h⟩
  · exact h.elim
theorem qCp_of {st : List Value} {f : Nat → Int32 → Nat → Int32 → Int32 → List Value → Prop} (h : qCp st f) : ∃ s sp d dp n r, st = .int n :: .int dp :: .ref d :: .int sp :: .ref s :: r ∧ f s sp d dp n r := by
  unfold qCp at h
  split at h
  · exact ⟨_, _, _, _, _, _, rfl, h⟩
  · exact h.elim
theorem qLdI_of {ls : List (Nat × Value)} {k : Nat} {f : Int32 → Prop} (h : qLdI ls k f) : ∃ x, qLk ls k = some (.int x) ∧ f x := by
  unfold qLdI at h
  split at h
  · rename_i x hx
    exact ⟨x, hx, h⟩
  · exact h.elim
theorem qLdL_of {ls : List (Nat × Value)} {k : Nat} {f : Int64 → Prop} (h : qLdL ls k f) : ∃ x, qLk ls k = some (.long x) ∧ f x := by
  unfold qLdL at h
  split at h
  · rename_i x hx
    exact ⟨x, hx, h⟩
  · exact h.elim
theorem qLdA_of {ls : List (Nat × Value)} {k : Nat} {f : Value → Prop} (h : qLdA ls k f) : (∃ a, qLk ls k = some (.ref a) ∧ f (.ref a)) ∨ (qLk ls k = some .null ∧ f .null) := by
  unfold qLdA at h
  split at h
  · rename_i x hx
    exact Or.inl ⟨x, hx, h⟩
  · rename_i hx
    exact Or.inr ⟨hx, h⟩
  · exact h.elim
theorem qIf_of {b : Bool} {k : Prop} (h : qIf b k) : b = true ∧ k := by
  cases b with
  | true => exact ⟨rfl, h⟩
  | false => exact h.elim
theorem qIs_of {a ci : Nat} {k : Prop} (h : qIs a ci k) : qK a = ci ∧ k := by
  unfold qIs at h
  cases hb : Nat.beq (qK a) ci with
  | true =>
    rw [hb] at h
    exact ⟨Nat.eq_of_beq_eq_true hb, h⟩
  | false =>
    rw [hb] at h
    exact h.elim
theorem qIn_of {ph : Bool} {a : Nat} {M : qM} {k : Prop} (hs : ph = true → qStat M) (h : qIn ph a M k) : a < M.1 + 2 ∧ k := by
  unfold qIn at h
  cases hb : (ph && Nat.blt a qBase) with
  | true =>
    rw [hb] at h
    simp only [Bool.and_eq_true] at hb
    have h1 : a < qBase := q_blt.mp hb.2
    exact ⟨Nat.lt_of_lt_of_le h1 (hs hb.1).1, h⟩
  | false =>
    rw [hb] at h
    exact h
theorem qK_lo {a c : Nat} (h : qK a = c) (hc : c ≠ 18) : 2 ≤ a := by
  rcases a with _ | _ | a
  · exact absurd (show qK 0 = 18 from rfl) (by rw [h]; exact hc)
  · exact absurd (show qK 1 = 18 from rfl) (by rw [h]; exact hc)
  · omega
