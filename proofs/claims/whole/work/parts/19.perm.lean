/-! THE ORDER OF THE LOCALS DOES NOT MATTER -/
abbrev qLv : Type := List (Nat × Value)
theorem qRm1_eq (k : Nat) : ∀ ls : qLv, qRm1 k ls = ls.filter fun p => !(Nat.beq p.1 k || (Nat.beq (p.1 + 1) k && qC2 p.2)) := by
  intro ls
  induction ls with
  | nil => rfl
  | cons a r ih =>
    obtain ⟨i, v⟩ := a
    simp only [qRm1, List.filter_cons, ih]
    cases (Nat.beq i k || (Nat.beq (i + 1) k && qC2 v)) <;> rfl
theorem qRm2_eq (k : Nat) : ∀ ls : qLv, qRm2 k ls = ls.filter fun p => !(Nat.beq p.1 k || (Nat.beq p.1 (k + 1) || (Nat.beq (p.1 + 1) k && qC2 p.2))) := by
  intro ls
  induction ls with
  | nil => rfl
  | cons a r ih =>
    obtain ⟨i, v⟩ := a
    simp only [qRm2, List.filter_cons, ih]
    cases (Nat.beq i k || (Nat.beq i (k + 1) || (Nat.beq (i + 1) k && qC2 v))) <;> rfl
def qNr (v : Value) : Bool := match v with
  | .ref _ => false
  | _ => true
/-- the second has all that the first has, and beside it no references -/
def qPm (ls ls' : qLv) : Prop := (∀ p, p ∈ ls → p ∈ ls') ∧ (ls'.map Prod.fst).Nodup ∧ ∀ p, p ∈ ls' → p ∈ ls ∨ qNr p.2 = true
theorem qLk_in : ∀ (ls : qLv) (k : Nat) (v : Value), qLk ls k = some v → (k, v) ∈ ls := by
  intro ls
  induction ls with
  | nil => intro k v h; exact absurd h (by simp [qLk])
  | cons a r ih =>
    intro k v h
    obtain ⟨i, w⟩ := a
    simp only [qLk] at h
    cases h2 : Nat.beq i k with
    | true =>
      rw [h2] at h
      simp only [cond_true, Option.some.injEq] at h
      rw [Nat.eq_of_beq_eq_true h2, h]
      exact List.mem_cons_self
    | false =>
      rw [h2] at h
      exact List.mem_cons_of_mem _ (ih k v h)
theorem qLk_iff : ∀ (ls : qLv), (ls.map Prod.fst).Nodup → ∀ (k : Nat) (v : Value), qLk ls k = some v ↔ (k, v) ∈ ls := by
  intro ls
  induction ls with
  | nil => intro _ k v; simp [qLk]
  | cons a r ih =>
    intro hn k v
    obtain ⟨i, w⟩ := a
    simp only [List.map_cons, List.nodup_cons] at hn
    simp only [qLk, List.mem_cons, Prod.mk.injEq]
    cases h : Nat.beq i k with
    | true =>
      have e := Nat.eq_of_beq_eq_true h
      subst e
      simp only [cond_true, Option.some.injEq]
      constructor
      · intro h2; exact Or.inl ⟨trivial, h2.symm⟩
      · intro h2
        rcases h2 with h2 | h2
        · exact h2.2.symm
        · exact absurd (List.mem_map.mpr ⟨_, h2, rfl⟩) hn.1
    | false =>
      have e : ¬ k = i := fun e => by rw [e] at h; exact absurd h (by simp)
      simp only [cond_false, ih hn.2]
      constructor
      · exact Or.inr
      · intro h2
        rcases h2 with h2 | h2
        · exact absurd h2.1 e
        · exact h2
theorem qPm_lk {ls ls' : qLv} (h : qPm ls ls') (k : Nat) (v : Value) (e : qLk ls k = some v) : qLk ls' k = some v := (qLk_iff _ h.2.1 k v).mpr (h.1 _ (qLk_in _ _ _ e))
theorem qPm_fil {ls ls' : qLv} (h : qPm ls ls') (f : Nat × Value → Bool) : qPm (ls.filter f) (ls'.filter f) := by
  refine ⟨fun p hp => ?_, h.2.1.sublist (List.filter_sublist.map Prod.fst), fun p hp => ?_⟩
  · rw [List.mem_filter] at hp ⊢
    exact ⟨h.1 p hp.1, hp.2⟩
  · rw [List.mem_filter] at hp
    rcases h.2.2 p hp.1 with h1 | h1
    · exact Or.inl (List.mem_filter.mpr ⟨h1, hp.2⟩)
    · exact Or.inr h1
theorem qPm_cons {ls ls' : qLv} (h : qPm ls ls') (k : Nat) (v : Value) (hk : ∀ p ∈ ls', p.1 ≠ k) : qPm ((k, v) :: ls) ((k, v) :: ls') := by
  refine ⟨fun p hp => ?_, ?_, fun p hp => ?_⟩
  · rcases List.mem_cons.mp hp with h1 | h1
    · exact h1 ▸ List.mem_cons_self
    · exact List.mem_cons_of_mem _ (h.1 p h1)
  · simp only [List.map_cons, List.nodup_cons]
    refine ⟨fun hm => ?_, h.2.1⟩
    obtain ⟨p, h3, h4⟩ := List.mem_map.mp hm
    exact hk p h3 h4
  · rcases List.mem_cons.mp hp with h1 | h1
    · exact Or.inl (h1 ▸ List.mem_cons_self)
    · rcases h.2.2 p h1 with h2 | h2
      · exact Or.inl (List.mem_cons_of_mem _ h2)
      · exact Or.inr h2
theorem qPm_r1 {ls ls' : qLv} (h : qPm ls ls') (k : Nat) (v : Value) : qPm ((k, v) :: qRm1 k ls) ((k, v) :: qRm1 k ls') := by
  rw [qRm1_eq, qRm1_eq]
  refine qPm_cons (qPm_fil h _) k v fun p hp e => ?_
  have h5 := (List.mem_filter.mp hp).2
  subst e
  simp at h5
theorem qPm_r2 {ls ls' : qLv} (h : qPm ls ls') (k : Nat) (v : Value) : qPm ((k, v) :: qRm2 k ls) ((k, v) :: qRm2 k ls') := by
  rw [qRm2_eq, qRm2_eq]
  refine qPm_cons (qPm_fil h _) k v fun p hp e => ?_
  have h5 := (List.mem_filter.mp hp).2
  subst e
  simp at h5
theorem qRefs_iff (m : Nat) : ∀ l : List Value, qRefs m l ↔ ∀ a : Nat, Value.ref a ∈ l → a < m := by
  intro l
  induction l with
  | nil => simp [qRefs]
  | cons v r ih => cases v <;> simp [qRefs, ih]
theorem qPm_refs {ls ls' : qLv} (h : qPm ls ls') {m : Nat} (hr : qRefs m (ls.map Prod.snd)) : qRefs m (ls'.map Prod.snd) := by
  rw [qRefs_iff] at hr ⊢
  intro a ha
  obtain ⟨p, hp, e⟩ := List.mem_map.mp ha
  rcases h.2.2 p hp with h1 | h1
  · exact hr a (List.mem_map.mpr ⟨p, h1, e⟩)
  · rw [e] at h1; exact absurd h1 (by simp [qNr])
theorem qPm_make {ls ls' : qLv} (h : qPm ls ls') {T' : qT} {m : Nat} {st : List Value} {k k' : Prop} (hk : k → k') (z : qMake T' m ls st k) : qMake T' m ls' st k' := by
  unfold qMake at z ⊢
  split at z
  · exact hk z
  · exact ⟨⟨z.1.1, qPm_refs h z.1.2⟩, hk z.2⟩
theorem qPm_call {T : qT} {cs : qC} (hc : qCM cs) {j : Nat} {as : List Value} {ls ls' : qLv} (hp : qPm ls ls') {rest : List Value} {M : qM} {uc us : Nat} {X X' : List Value → Nat → Nat → qM → Prop} (h : ∀ a b c d, X a b c d → X' a b c d) (hk : qCall T cs j as ls rest M uc us X) : qCall T cs j as ls' rest M uc us X' := by
  unfold qCall at hk ⊢
  exact qIf_mono (qPm_make hp (qPhCall_mono (fun z => ⟨z.1, hc _ _ _ _ _ (fun v M h2 => qPhBack_mono (h _ _ _ _) h2) z.2⟩))) hk
theorem qPm_ldI {ls ls' : qLv} {k : Nat} (e : ∀ v, qLk ls k = some v → qLk ls' k = some v) {f g : Int32 → Prop} (h : ∀ x, f x → g x) (z : qLdI ls k f) : qLdI ls' k g := by
  unfold qLdI at z ⊢
  cases h1 : qLk ls k with
  | none => rw [h1] at z; exact z.elim
  | some v =>
    rw [h1] at z
    rw [e _ h1]
    cases v <;> first | exact h _ z | exact z.elim
theorem qPm_ldL {ls ls' : qLv} {k : Nat} (e : ∀ v, qLk ls k = some v → qLk ls' k = some v) {f g : Int64 → Prop} (h : ∀ x, f x → g x) (z : qLdL ls k f) : qLdL ls' k g := by
  unfold qLdL at z ⊢
  cases h1 : qLk ls k with
  | none => rw [h1] at z; exact z.elim
  | some v =>
    rw [h1] at z
    rw [e _ h1]
    cases v <;> first | exact h _ z | exact z.elim
theorem qPm_ldA {ls ls' : qLv} {k : Nat} (e : ∀ v, qLk ls k = some v → qLk ls' k = some v) {f g : Value → Prop} (h : ∀ x, f x → g x) (z : qLdA ls k f) : qLdA ls' k g := by
  unfold qLdA at z ⊢
  cases h1 : qLk ls k with
  | none => rw [h1] at z; exact z.elim
  | some v =>
    rw [h1] at z
    rw [e _ h1]
    cases v <;> first | exact h _ z | exact z.elim
set_option maxHeartbeats 4000000 in
theorem qStep_perm {T : qT} {cs : qC} {Q : qP} {X X' : qX} (hc : qCM cs) (hX : ∀ pc ls ls' st uc us M, qPm ls ls' → X pc ls st uc us M → X' pc ls' st uc us M) {pc : Nat} {ls ls' : qLv} (hp : qPm ls ls') {st : List Value} {uc us : Nat} {M : qM}
    (h : qStep T cs Q X pc ls st uc us M) : qStep T cs Q X' pc ls' st uc us M := by
  unfold qStep at h ⊢
  cases hq : qFindB (qBl T) pc with
  | none => rw [hq] at h; exact h.elim
  | some il =>
    obtain ⟨ins, len⟩ := il
    rw [hq] at h
    dsimp only at h ⊢
    have hX1 : ∀ {pc st uc us M}, X pc ls st uc us M → X' pc ls' st uc us M := fun h => hX _ _ _ _ _ _ _ hp h
    have hQ : ∀ v M, Q v M → Q v M := fun _ _ z => z
    have hk := qPm_lk hp
    cases ins with
    | iload k => exact qPm_ldI (hk _) (fun _ => hX1) h
    | iload_n k => exact qPm_ldI (hk _) (fun _ => hX1) h
    | lload k => exact qPm_ldL (hk _) (fun _ => hX1) h
    | lload_n k => exact qPm_ldL (hk _) (fun _ => hX1) h
    | aload k => exact qPm_ldA (hk _) (fun _ => hX1) h
    | aload_n k => exact qPm_ldA (hk _) (fun _ => hX1) h
    | iinc k n => exact qPm_ldI (hk _) (fun _ => hX _ _ _ _ _ _ _ (qPm_r1 hp _ _)) h
    | istore k => exact qI1_mono (fun _ _ => hX _ _ _ _ _ _ _ (qPm_r1 hp _ _)) h
    | istore_n k => exact qI1_mono (fun _ _ => hX _ _ _ _ _ _ _ (qPm_r1 hp _ _)) h
    | lstore k => exact qL1_mono (fun _ _ => hX _ _ _ _ _ _ _ (qPm_r2 hp _ _)) h
    | lstore_n k => exact qL1_mono (fun _ _ => hX _ _ _ _ _ _ _ (qPm_r2 hp _ _)) h
    | dup => cases st with
      | nil => exact h.elim
      | cons v r => exact qIf_mono hX1 h
    | pop => cases st with
      | nil => exact h.elim
      | cons v r => exact qIf_mono hX1 h
    | ifCond cd t => cases cd <;> exact qI1_mono (fun _ _ z => ⟨fun e => hX1 (z.1 e), fun e => hX1 (z.2 e)⟩) h
    | if_icmp cd t => cases cd <;> exact qI2_mono (fun _ _ _ z => ⟨fun e => hX1 (z.1 e), fun e => hX1 (z.2 e)⟩) h
    | astore k => exact qAn_mono (fun _ => hX _ _ _ _ _ _ _ (qPm_r1 hp _ _)) (fun _ _ => hX _ _ _ _ _ _ _ (qPm_r1 hp _ _)) h
    | astore_n k => exact qAn_mono (fun _ => hX _ _ _ _ _ _ _ (qPm_r1 hp _ _)) (fun _ _ => hX _ _ _ _ _ _ _ (qPm_r1 hp _ _)) h
    | ifnull t => exact qAn_mono (fun _ => hX1) (fun _ _ => hX1) h
    | ifnonnull t => exact qAn_mono (fun _ => hX1) (fun _ _ => hX1) h
    | tableswitch a b c2 d2 => exact qI1_mono (fun _ _ z => ⟨fun e => hX1 (z.1 e), qTabs_mono (fun _ => hX1) _ _ z.2⟩) h
    | lookupswitch a b => exact qI1_mono (fun _ _ z => qLks_mono (fun _ => hX1) _ z) h
    | idiv => exact qI2_mono (fun _ _ _ z => ⟨z.1, hX1 z.2⟩) h
    | ldiv => exact qL2_mono (fun _ _ _ z => ⟨z.1, hX1 z.2⟩) h
    | lrem => exact qL2_mono (fun _ _ _ z => ⟨z.1, hX1 z.2⟩) h
    | getfield k =>
      refine qA1_mono (fun _ _ => qIs_mono (qIn_mono fun z => ?_)) h
      split at z
      · split at z
        · exact hX1 z
        · obtain ⟨v, hv, z⟩ := z; exact ⟨v, hv, hX1 z⟩
      · exact hX1 z
    | putfield k =>
      dsimp only at h ⊢
      split at h
      · exact qVA_mono (fun _ _ _ => qIs_mono (qIn_mono (qIf_mono fun z => ⟨z.1, hX1 z.2⟩))) h
      · exact qIA_mono (fun _ _ _ => qIs_mono (qIn_mono fun z => ⟨z.1, hX1 z.2⟩)) h
      · exact qIA_mono (fun _ _ _ => qIs_mono (qIn_mono hX1)) h
    | arraylength =>
      refine qA1_mono (fun _ _ z => ?_) h
      split at z
      · exact hX1 z
      · exact qIf_mono (qIn_mono hX1) z
    | iaload =>
      refine qAI_mono (fun _ _ _ z => ?_) h
      split at z
      · exact ⟨z.1, hX1 z.2⟩
      · exact qIs_mono (qIn_mono fun z => ⟨z.1, hX1 z.2⟩) z
    | baload =>
      refine qAI_mono (fun _ _ _ z => ?_) h
      split at z
      · exact qIn_mono (fun z => ⟨z.1, hX1 z.2⟩) z
      · exact qIs_mono (qIn_mono fun z => ⟨z.1, hX1 z.2⟩) z
    | laload => exact qAI_mono (fun _ _ _ => qIs_mono (qIn_mono fun z => ⟨z.1, hX1 z.2⟩)) h
    | aaload => exact qAI_mono (fun _ _ _ => qIs_mono (qIn_mono fun z => ⟨z.1, z.2.elim fun v w => ⟨v, w.1, hX1 w.2⟩⟩)) h
    | iastore => exact qAII_mono (fun _ _ _ _ => qIs_mono (qIn_mono fun z => ⟨z.1, hX1 z.2⟩)) h
    | bastore =>
      refine qAII_mono (fun _ _ _ _ z => ?_) h
      split at z
      · exact qIn_mono (fun z => ⟨z.1, hX1 z.2⟩) z
      · exact qIs_mono (qIn_mono fun z => ⟨z.1, hX1 z.2⟩) z
    | lastore => exact qAIL_mono (fun _ _ _ _ => qIs_mono (qIn_mono fun z => ⟨z.1, hX1 z.2⟩)) h
    | aastore => exact qAIA_mono (fun _ _ _ _ => qIs_mono (qIn_mono fun z => ⟨z.1, z.2.1, hX1 z.2.2⟩)) h
    | new c => exact qIf_mono (qIs_mono fun z => ⟨⟨z.1.1, z.1.2.1, z.1.2.2.1, qPm_refs hp z.1.2.2.2⟩, hX1 z.2⟩) h
    | newarray ty => exact qIf_mono (qI1_mono fun _ _ => qIs_mono fun z => ⟨⟨z.1.1, z.1.2.1, z.1.2.2.1, z.1.2.2.2.1, z.1.2.2.2.2.1, z.1.2.2.2.2.2.1, qPm_refs hp z.1.2.2.2.2.2.2⟩, hX1 z.2⟩) h
    | anewarray k => exact qIf_mono (qI1_mono fun _ _ => qIs_mono fun z => ⟨⟨z.1.1, z.1.2.1, z.1.2.2.1, z.1.2.2.2.1, z.1.2.2.2.2.1, z.1.2.2.2.2.2.1, qPm_refs hp z.1.2.2.2.2.2.2⟩, hX1 z.2⟩) h
    | invokevirtual j => exact qTake_mono _ _ _ (fun _ _ => qA1_mono fun _ _ => qIs_mono (qIn_mono (qPm_call hc hp fun _ _ _ _ => hX1))) h
    | invokestatic j =>
      dsimp only at h ⊢
      split at h
      · exact qCp_mono (fun _ _ _ _ _ _ => qIs_mono (qIs_mono (qIn_mono (qIn_mono (qIf_mono fun z => ⟨z.1, hX1 z.2⟩))))) h
      · split at h
        · exact qMath_mono (fun _ _ => hX1) h
        · exact qTake_mono _ _ _ (fun _ _ => qPm_call hc hp fun _ _ _ _ => hX1) h
    | invokespecial j =>
      dsimp only at h ⊢
      split at h
      · exact qA1_mono (fun _ _ => qIf_mono hX1) h
      · exact qTake_mono _ _ _ (fun _ _ => qA1_mono fun _ _ => qPm_call hc hp fun _ _ _ _ => hX1) h
    | ireturn =>
      dsimp only at h ⊢
      split at h
      · split at h
        · exact hQ _ _ h
        · exact ⟨h.1, hQ _ _ h.2⟩
        · exact h.elim
      · exact h.elim
    | lreturn =>
      dsimp only at h ⊢
      split at h
      · exact hQ _ _ h
      · exact h.elim
    | areturn =>
      dsimp only at h ⊢
      split at h
      · exact hQ _ _ h
      · exact hQ _ _ h
      · exact h.elim
    | return_ =>
      dsimp only at h ⊢
      split at h
      · exact hQ _ _ h
      · exact h.elim
    | _ => first
      | exact hX1 h
      | exact qI1_mono (fun _ _ => hX1) h
      | exact qI2_mono (fun _ _ _ => hX1) h
      | exact qL1_mono (fun _ _ => hX1) h
      | exact qL2_mono (fun _ _ _ => hX1) h
      | exact qLI_mono (fun _ _ _ => hX1) h
      | exact h.elim
theorem qRun_perm {T : qT} {cs : qC} {Q : qP} {X X' : qX} (hc : qCM cs) (hX : ∀ pc ls ls' st uc us M, qPm ls ls' → X pc ls st uc us M → X' pc ls' st uc us M) (cuts : List Nat) : ∀ (n pc : Nat) (ls ls' : qLv) (st : List Value) (uc us : Nat) (M : qM), qPm ls ls' → qRun T cs Q X cuts n pc ls st uc us M → qRun T cs Q X' cuts n pc ls' st uc us M := by
  intro n
  induction n with
  | zero => exact hX
  | succ n ih =>
    intro pc ls ls' st uc us M hp h
    refine qStep_perm hc (fun pc ls ls' st uc us M hp z => ?_) hp h
    split at z
    · exact hX _ _ _ _ _ _ _ hp z
    · exact ih _ _ _ _ _ _ _ hp z
theorem qJ_perm {T : qT} {cs : qC} {Q : qP} (hc : qCM cs) {pc : Nat} {ls ls' : qLv} {st : List Value} {uc us : Nat} {M : qM} (hp : qPm ls ls') (h : qJ T cs Q pc ls st uc us M) : qJ T cs Q pc ls' st uc us M := by
  refine h (fun pc ls st uc us M => ∀ ls', qPm ls ls' → qJ T cs Q pc ls' st uc us M) (fun cuts n pc ls st uc us M hr ls' hp => ?_) ls' hp
  exact qJ_run hc cuts n (qRun_perm hc (fun _ _ _ _ _ _ _ hp z => z _ hp) cuts _ _ _ _ _ _ _ _ hp hr)
/-- sorted by number, the greatest first -/
def qIns (p : Nat × Value) : qLv → qLv
  | [] => [p]
  | q :: r => bif Nat.ble q.1 p.1 then p :: q :: r else q :: qIns p r
def qNm : qLv → qLv
  | [] => []
  | p :: r => qIns p (qNm r)
def qNd : qLv → Bool
  | [] => true
  | p :: r => !(r.any fun q => Nat.beq q.1 p.1) && qNd r
theorem qIns_perm (p : Nat × Value) : ∀ l : qLv, (p :: l).Perm (qIns p l) := by
  intro l
  induction l with
  | nil => exact List.Perm.refl _
  | cons q r ih =>
    simp only [qIns]
    cases Nat.ble q.1 p.1 with
    | true => exact List.Perm.refl _
    | false => exact (List.Perm.swap q p r).trans (ih.cons q)
theorem qNm_perm : ∀ l : qLv, l.Perm (qNm l) := by
  intro l
  induction l with
  | nil => exact List.Perm.refl _
  | cons p r ih => exact (ih.cons p).trans (qIns_perm p _)
theorem qNd_of : ∀ l : qLv, qNd l = true → (l.map Prod.fst).Nodup := by
  intro l
  induction l with
  | nil => intro _; exact List.nodup_nil
  | cons p r ih =>
    intro h
    simp only [qNd, Bool.and_eq_true, Bool.not_eq_true'] at h
    simp only [List.map_cons, List.nodup_cons]
    refine ⟨fun hm => ?_, ih h.2⟩
    obtain ⟨q, h3, h4⟩ := List.mem_map.mp hm
    have h5 := List.any_eq_false.mp h.1 q h3
    rw [h4] at h5
    exact h5 (Nat.beq_refl _)
/-- the locals in their order, without those that are of no use -/
theorem qJ_nm {T : qT} {cs : qC} {Q : qP} (hc : qCM cs) {pc : Nat} {ls' : qLv} (xs ls : qLv) {st : List Value} {uc us : Nat} {M : qM} (hd : qNd ls' = true) (he : qNm (xs ++ ls) = qNm ls') (hx : (xs.all fun p => qNr p.2) = true) (h : qJ T cs Q pc ls st uc us M) : qJ T cs Q pc ls' st uc us M := by
  have hp : (xs ++ ls).Perm ls' := (qNm_perm _).trans (he ▸ (qNm_perm ls').symm)
  refine qJ_perm hc ⟨fun p h => hp.mem_iff.mp (List.mem_append_right _ h), qNd_of _ hd, fun p h => ?_⟩ h
  rcases List.mem_append.mp (hp.mem_iff.mpr h) with h1 | h1
  · exact Or.inr (List.all_eq_true.mp hx p h1)
  · exact Or.inl h1
