/-! THE RULES OF THE PLAIN MACHINE: more is left of what is asked, the steps fold -/
theorem qI1_mono {st : List Value} {f g : Int32 → List Value → Prop} (h : ∀ x r, f x r → g x r) (hf : qI1 st f) : qI1 st g := by
  unfold qI1 at hf ⊢
  split at hf <;> first | exact h _ _ hf | exact h _ _ _ hf | exact h _ _ _ _ hf | exact h _ _ _ _ _ _ hf | exact hf.elim
theorem qI2_mono {st : List Value} {f g : Int32 → Int32 → List Value → Prop} (h : ∀ x y r, f x y r → g x y r) (hf : qI2 st f) : qI2 st g := by
  unfold qI2 at hf ⊢
  split at hf <;> first | exact h _ _ hf | exact h _ _ _ hf | exact h _ _ _ _ hf | exact h _ _ _ _ _ _ hf | exact hf.elim
theorem qL1_mono {st : List Value} {f g : Int64 → List Value → Prop} (h : ∀ x r, f x r → g x r) (hf : qL1 st f) : qL1 st g := by
  unfold qL1 at hf ⊢
  split at hf <;> first | exact h _ _ hf | exact h _ _ _ hf | exact h _ _ _ _ hf | exact h _ _ _ _ _ _ hf | exact hf.elim
theorem qL2_mono {st : List Value} {f g : Int64 → Int64 → List Value → Prop} (h : ∀ x y r, f x y r → g x y r) (hf : qL2 st f) : qL2 st g := by
  unfold qL2 at hf ⊢
  split at hf <;> first | exact h _ _ hf | exact h _ _ _ hf | exact h _ _ _ _ hf | exact h _ _ _ _ _ _ hf | exact hf.elim
theorem qLI_mono {st : List Value} {f g : Int64 → Int32 → List Value → Prop} (h : ∀ x y r, f x y r → g x y r) (hf : qLI st f) : qLI st g := by
  unfold qLI at hf ⊢
  split at hf <;> first | exact h _ _ hf | exact h _ _ _ hf | exact h _ _ _ _ hf | exact h _ _ _ _ _ _ hf | exact hf.elim
theorem qA1_mono {st : List Value} {f g : Nat → List Value → Prop} (h : ∀ a r, f a r → g a r) (hf : qA1 st f) : qA1 st g := by
  unfold qA1 at hf ⊢
  split at hf <;> first | exact h _ _ hf | exact h _ _ _ hf | exact h _ _ _ _ hf | exact h _ _ _ _ _ _ hf | exact hf.elim
theorem qAI_mono {st : List Value} {f g : Nat → Int32 → List Value → Prop} (h : ∀ a i r, f a i r → g a i r) (hf : qAI st f) : qAI st g := by
  unfold qAI at hf ⊢
  split at hf <;> first | exact h _ _ hf | exact h _ _ _ hf | exact h _ _ _ _ hf | exact h _ _ _ _ _ _ hf | exact hf.elim
theorem qAII_mono {st : List Value} {f g : Nat → Int32 → Int32 → List Value → Prop} (h : ∀ a i x r, f a i x r → g a i x r) (hf : qAII st f) : qAII st g := by
  unfold qAII at hf ⊢
  split at hf <;> first | exact h _ _ hf | exact h _ _ _ hf | exact h _ _ _ _ hf | exact h _ _ _ _ _ _ hf | exact hf.elim
theorem qAIL_mono {st : List Value} {f g : Nat → Int32 → Int64 → List Value → Prop} (h : ∀ a i x r, f a i x r → g a i x r) (hf : qAIL st f) : qAIL st g := by
  unfold qAIL at hf ⊢
  split at hf <;> first | exact h _ _ hf | exact h _ _ _ hf | exact h _ _ _ _ hf | exact h _ _ _ _ _ _ hf | exact hf.elim
theorem qAIA_mono {st : List Value} {f g : Nat → Int32 → Option Nat → List Value → Prop} (h : ∀ a i v r, f a i v r → g a i v r) (hf : qAIA st f) : qAIA st g := by
  unfold qAIA at hf ⊢
  split at hf <;> first | exact h _ _ hf | exact h _ _ _ hf | exact h _ _ _ _ hf | exact h _ _ _ _ _ _ hf | exact hf.elim
theorem qIA_mono {st : List Value} {f g : Nat → Int32 → List Value → Prop} (h : ∀ a x r, f a x r → g a x r) (hf : qIA st f) : qIA st g := by
  unfold qIA at hf ⊢
  split at hf <;> first | exact h _ _ hf | exact h _ _ _ hf | exact h _ _ _ _ hf | exact h _ _ _ _ _ _ hf | exact hf.elim
theorem qVA_mono {st : List Value} {f g : Nat → Option Nat → List Value → Prop} (h : ∀ a v r, f a v r → g a v r) (hf : qVA st f) : qVA st g := by
  unfold qVA at hf ⊢
  split at hf <;> first | exact h _ _ hf | exact h _ _ _ hf | exact h _ _ _ _ hf | exact h _ _ _ _ _ _ hf | exact hf.elim
theorem qCp_mono {st : List Value} {f g : Nat → Int32 → Nat → Int32 → Int32 → List Value → Prop} (h : ∀ s sp d dp n r, f s sp d dp n r → g s sp d dp n r) (hf : qCp st f) : qCp st g := by
  unfold qCp at hf ⊢
  split at hf <;> first | exact h _ _ hf | exact h _ _ _ hf | exact h _ _ _ _ hf | exact h _ _ _ _ _ _ hf | exact hf.elim
theorem qLdI_mono {ls : List (Nat × Value)} {k : Nat} {f g : Int32 → Prop} (h : ∀ x, f x → g x) (hf : qLdI ls k f) : qLdI ls k g := by
  unfold qLdI at hf ⊢
  split at hf <;> first | exact h _ hf | exact hf.elim
theorem qLdL_mono {ls : List (Nat × Value)} {k : Nat} {f g : Int64 → Prop} (h : ∀ x, f x → g x) (hf : qLdL ls k f) : qLdL ls k g := by
  unfold qLdL at hf ⊢
  split at hf <;> first | exact h _ hf | exact hf.elim
theorem qLdA_mono {ls : List (Nat × Value)} {k : Nat} {f g : Value → Prop} (h : ∀ x, f x → g x) (hf : qLdA ls k f) : qLdA ls k g := by
  unfold qLdA at hf ⊢
  split at hf <;> first | exact h _ hf | exact hf.elim
theorem qAn_mono {st : List Value} {g g' : List Value → Prop} {f f' : Nat → List Value → Prop} (hg : ∀ r, g r → g' r) (h : ∀ a r, f a r → f' a r) (hf : qAn st g f) : qAn st g' f' := by
  unfold qAn at hf ⊢
  split at hf <;> first | exact h _ _ hf | exact hg _ hf | exact hf.elim
theorem qIs_mono {a ci : Nat} {k k' : Prop} (h : k → k') (hk : qIs a ci k) : qIs a ci k' := by
  unfold qIs at hk ⊢
  split at hk <;> first | exact h hk | exact hk.elim
theorem qIf_mono {b : Bool} {k k' : Prop} (h : k → k') (hk : qIf b k) : qIf b k' := by
  unfold qIf at hk ⊢
  split at hk <;> first | exact h hk | exact hk.elim
theorem qIn_mono {ph : Bool} {a : Nat} {M : qM} {k k' : Prop} (h : k → k') (hk : qIn ph a M k) : qIn ph a M k' := by
  unfold qIn at hk ⊢
  split at hk <;> first | exact h hk | exact ⟨hk.1, h hk.2⟩
theorem qTake_mono : ∀ (n : Nat) (acc st : List Value) {k k' : List Value → List Value → Prop}, (∀ a b, k a b → k' a b) → qTake n acc st k → qTake n acc st k' := by
  intro n
  induction n with
  | zero => intro acc st k k' h hk; exact h _ _ hk
  | succ n ih =>
    intro acc st k k' h hk
    cases st with
    | nil => exact hk.elim
    | cons v r => exact ih _ _ h hk
theorem qTabs_mono {x : Int32} {X X' : Nat → Prop} (h : ∀ t, X t → X' t) : ∀ (ts : List Int) (lo : Int), qTabs x X lo ts → qTabs x X' lo ts := by
  intro ts
  induction ts with
  | nil => intro lo _; exact trivial
  | cons t r ih => intro lo hk; exact ⟨fun e => h _ (hk.1 e), ih _ hk.2⟩
theorem qLks_mono {x : Int32} {X X' : Nat → Prop} {d : Int} (h : ∀ t, X t → X' t) : ∀ ps : List (Int × Int), qLks x X d ps → qLks x X' d ps := by
  intro ps
  induction ps with
  | nil => intro hk; exact h _ hk
  | cons q r ih =>
    obtain ⟨k, t⟩ := q
    intro hk
    exact ⟨fun e => h _ (hk.1 e), fun e => ih (hk.2 e)⟩
theorem qPhCall_mono {T T' : qT} {M : qM} {k k' : Prop} (h : k → k') (hk : qPhCall T T' M k) : qPhCall T T' M k' := by
  unfold qPhCall at hk ⊢
  split at hk <;> first | exact ⟨hk.1, h hk.2⟩ | exact h hk
theorem qPhBack_mono {T T' : qT} {M : qM} {k k' : Prop} (h : k → k') (hk : qPhBack T T' M k) : qPhBack T T' M k' := by
  unfold qPhBack at hk ⊢
  split at hk <;> first | exact ⟨hk.1, h hk.2⟩ | exact h hk
theorem qMake_mono {T' : qT} {m : Nat} {ls : List (Nat × Value)} {st : List Value} {k k' : Prop} (h : k → k') (hk : qMake T' m ls st k) : qMake T' m ls st k' := by
  unfold qMake at hk ⊢
  split at hk <;> first | exact h hk | exact ⟨hk.1, h hk.2⟩
def qCM (cs : qC) : Prop := ∀ (j : Nat) (as : List Value) (M : qM) (K K' : qP), (∀ v M, K v M → K' v M) → cs j as M K → cs j as M K'
theorem qCall_mono {T : qT} {cs : qC} (hc : qCM cs) {j : Nat} {as : List Value} {ls : List (Nat × Value)} {rest : List Value} {M : qM} {uc us : Nat} {X X' : List Value → Nat → Nat → qM → Prop} (h : ∀ a b c d, X a b c d → X' a b c d) (hk : qCall T cs j as ls rest M uc us X) : qCall T cs j as ls rest M uc us X' := by
  unfold qCall at hk ⊢
  exact qIf_mono (qMake_mono (qPhCall_mono (fun z => ⟨z.1, hc _ _ _ _ _ (fun v M h2 => qPhBack_mono (h _ _ _ _) h2) z.2⟩))) hk
theorem qMath_mono {j : Nat} {st : List Value} {k k' : Int32 → List Value → Prop} (h : ∀ x r, k x r → k' x r) (hk : qMath j st k) : qMath j st k' := by
  unfold qMath at hk ⊢
  split at hk
  · exact qI1_mono (fun _ _ => qIf_mono (h _ _)) hk
  · split at hk
    · exact qI2_mono (fun _ _ _ => qIf_mono (h _ _)) hk
    · split at hk
      · exact qI2_mono (fun _ _ _ => qIf_mono (h _ _)) hk
      · exact hk.elim
set_option maxHeartbeats 4000000 in
theorem qStep_mono {T : qT} {cs : qC} {Q Q' : qP} {X X' : qX} (hc : qCM cs) (hQ : ∀ v M, Q v M → Q' v M) (hX : ∀ pc ls st uc us M, X pc ls st uc us M → X' pc ls st uc us M) {pc : Nat} {ls : List (Nat × Value)} {st : List Value} {uc us : Nat} {M : qM}
    (h : qStep T cs Q X pc ls st uc us M) : qStep T cs Q' X' pc ls st uc us M := by
  unfold qStep at h ⊢
  cases hq : qFindB (qBl T) pc with
  | none => rw [hq] at h; exact h.elim
  | some il =>
    obtain ⟨ins, len⟩ := il
    rw [hq] at h
    dsimp only at h ⊢
    have hX1 : ∀ {pc ls st uc us M}, X pc ls st uc us M → X' pc ls st uc us M := fun h => hX _ _ _ _ _ _ h
    cases ins with
    | dup => cases st with
      | nil => exact h.elim
      | cons v r => exact qIf_mono hX1 h
    | pop => cases st with
      | nil => exact h.elim
      | cons v r => exact qIf_mono hX1 h
    | ifCond cd t => cases cd <;> exact qI1_mono (fun _ _ z => ⟨fun e => hX1 (z.1 e), fun e => hX1 (z.2 e)⟩) h
    | if_icmp cd t => cases cd <;> exact qI2_mono (fun _ _ _ z => ⟨fun e => hX1 (z.1 e), fun e => hX1 (z.2 e)⟩) h
    | astore k => exact qAn_mono (fun _ => hX1) (fun _ _ => hX1) h
    | astore_n k => exact qAn_mono (fun _ => hX1) (fun _ _ => hX1) h
    | ifnull t => exact qAn_mono (fun _ => hX1) (fun _ _ => hX1) h
    | ifnonnull t => exact qAn_mono (fun _ => hX1) (fun _ _ => hX1) h
    | tableswitch a b c2 d2 => exact qI1_mono (fun _ _ z => ⟨fun e => hX1 (z.1 e), qTabs_mono (fun _ => hX1) _ _ z.2⟩) h
    | lookupswitch a b => exact qI1_mono (fun _ _ z => qLks_mono (fun _ => hX1) _ z) h
    | idiv => exact qI2_mono (fun _ _ _ z => ⟨z.1, hX1 z.2⟩) h
    | ldiv => exact qL2_mono (fun _ _ _ z => ⟨z.1, hX1 z.2⟩) h
    | lrem => exact qL2_mono (fun _ _ _ z => ⟨z.1, hX1 z.2⟩) h
    | getfield k =>
      refine qA1_mono (fun _ _ => qIs_mono (qIn_mono fun z => ?_)) h
      split at z
      · split at z
        · exact hX1 z
        · obtain ⟨v, hv, z⟩ := z; exact ⟨v, hv, hX1 z⟩
      · exact hX1 z
    | putfield k =>
      dsimp only at h ⊢
      split at h
      · exact qVA_mono (fun _ _ _ => qIs_mono (qIn_mono (qIf_mono fun z => ⟨z.1, hX1 z.2⟩))) h
      · exact qIA_mono (fun _ _ _ => qIs_mono (qIn_mono fun z => ⟨z.1, hX1 z.2⟩)) h
      · exact qIA_mono (fun _ _ _ => qIs_mono (qIn_mono hX1)) h
    | arraylength =>
      refine qA1_mono (fun _ _ z => ?_) h
      split at z
      · exact hX1 z
      · exact qIf_mono (qIn_mono hX1) z
    | iaload =>
      refine qAI_mono (fun _ _ _ z => ?_) h
      split at z
      · exact ⟨z.1, hX1 z.2⟩
      · exact qIs_mono (qIn_mono fun z => ⟨z.1, hX1 z.2⟩) z
    | baload =>
      refine qAI_mono (fun _ _ _ z => ?_) h
      split at z
      · exact qIn_mono (fun z => ⟨z.1, hX1 z.2⟩) z
      · exact qIs_mono (qIn_mono fun z => ⟨z.1, hX1 z.2⟩) z
    | laload => exact qAI_mono (fun _ _ _ => qIs_mono (qIn_mono fun z => ⟨z.1, hX1 z.2⟩)) h
    | aaload => exact qAI_mono (fun _ _ _ => qIs_mono (qIn_mono fun z => ⟨z.1, z.2.elim fun v w => ⟨v, w.1, hX1 w.2⟩⟩)) h
    | iastore => exact qAII_mono (fun _ _ _ _ => qIs_mono (qIn_mono fun z => ⟨z.1, hX1 z.2⟩)) h
    | bastore =>
      refine qAII_mono (fun _ _ _ _ z => ?_) h
      split at z
      · exact qIn_mono (fun z => ⟨z.1, hX1 z.2⟩) z
      · exact qIs_mono (qIn_mono fun z => ⟨z.1, hX1 z.2⟩) z
    | lastore => exact qAIL_mono (fun _ _ _ _ => qIs_mono (qIn_mono fun z => ⟨z.1, hX1 z.2⟩)) h
    | aastore => exact qAIA_mono (fun _ _ _ _ => qIs_mono (qIn_mono fun z => ⟨z.1, z.2.1, hX1 z.2.2⟩)) h
    | new c => exact qIf_mono (qIs_mono fun z => ⟨z.1, hX1 z.2⟩) h
    | newarray ty => exact qIf_mono (qI1_mono fun _ _ => qIs_mono fun z => ⟨z.1, hX1 z.2⟩) h
    | anewarray k => exact qIf_mono (qI1_mono fun _ _ => qIs_mono fun z => ⟨z.1, hX1 z.2⟩) h
    | invokevirtual j => exact qTake_mono _ _ _ (fun _ _ => qA1_mono fun _ _ => qIs_mono (qIn_mono (qCall_mono hc fun _ _ _ _ => hX1))) h
    | invokestatic j =>
      dsimp only at h ⊢
      split at h
      · exact qCp_mono (fun _ _ _ _ _ _ => qIs_mono (qIs_mono (qIn_mono (qIn_mono (qIf_mono fun z => ⟨z.1, hX1 z.2⟩))))) h
      · split at h
        · exact qMath_mono (fun _ _ => hX1) h
        · exact qTake_mono _ _ _ (fun _ _ => qCall_mono hc fun _ _ _ _ => hX1) h
    | invokespecial j =>
      dsimp only at h ⊢
      split at h
      · exact qA1_mono (fun _ _ => qIf_mono hX1) h
      · exact qTake_mono _ _ _ (fun _ _ => qA1_mono fun _ _ => qCall_mono hc fun _ _ _ _ => hX1) h
    | ireturn =>
      dsimp only at h ⊢
      split at h
      · split at h
        · exact hQ _ _ h
        · exact ⟨h.1, hQ _ _ h.2⟩
        · exact h.elim
      · exact h.elim
    | lreturn =>
      dsimp only at h ⊢
      split at h
      · exact hQ _ _ h
      · exact h.elim
    | areturn =>
      dsimp only at h ⊢
      split at h
      · exact hQ _ _ h
      · exact hQ _ _ h
      · exact h.elim
    | return_ =>
      dsimp only at h ⊢
      split at h
      · exact hQ _ _ h
      · exact h.elim
    | _ => first
      | exact hX1 h
      | exact qI1_mono (fun _ _ => hX1) h
      | exact qI2_mono (fun _ _ _ => hX1) h
      | exact qL1_mono (fun _ _ => hX1) h
      | exact qL2_mono (fun _ _ _ => hX1) h
      | exact qLI_mono (fun _ _ _ => hX1) h
      | exact qLdI_mono (fun _ => hX1) h
      | exact qLdL_mono (fun _ => hX1) h
      | exact qLdA_mono (fun _ => hX1) h
      | exact h.elim
theorem qRun_mono {T : qT} {cs : qC} {Q Q' : qP} {X X' : qX} (hc : qCM cs) (hQ : ∀ v M, Q v M → Q' v M) (hX : ∀ pc ls st uc us M, X pc ls st uc us M → X' pc ls st uc us M) (cuts : List Nat) : ∀ (n pc : Nat) (ls : List (Nat × Value)) (st : List Value) (uc us : Nat) (M : qM), qRun T cs Q X cuts n pc ls st uc us M → qRun T cs Q' X' cuts n pc ls st uc us M := by
  intro n
  induction n with
  | zero => exact hX
  | succ n ih =>
    intro pc ls st uc us M h
    refine qStep_mono hc hQ (fun pc ls st uc us M z => ?_) h

    split at z
    · exact hX _ _ _ _ _ _ z
    · exact ih _ _ _ _ _ _ z
/-- FOLD: some steps, then such places -/
theorem qJ_run {T : qT} {cs : qC} {Q : qP} (hc : qCM cs) (cuts : List Nat) (n : Nat) {pc : Nat} {ls : List (Nat × Value)} {st : List Value} {uc us : Nat} {M : qM} (h : qRun T cs Q (qJ T cs Q) cuts (n + 1) pc ls st uc us M) : qJ T cs Q pc ls st uc us M :=
  fun X hX => hX cuts n _ _ _ _ _ _ (qRun_mono hc (fun _ _ z => z) (fun _ _ _ _ _ _ z => z X hX) cuts _ _ _ _ _ _ _ h)
theorem qJ_mono {T : qT} {cs : qC} {Q Q' : qP} (hc : qCM cs) (hQ : ∀ v M, Q v M → Q' v M) {pc : Nat} {ls : List (Nat × Value)} {st : List Value} {uc us : Nat} {M : qM} (h : qJ T cs Q pc ls st uc us M) : qJ T cs Q' pc ls st uc us M :=
  fun X hX => h X fun cuts n _ _ _ _ _ _ z => hX cuts n _ _ _ _ _ _ (qRun_mono hc hQ (fun _ _ _ _ _ _ w => w) cuts _ _ _ _ _ _ _ z)
theorem qWP_mono : ∀ d : Nat, qCM (qWP d) := by
  intro d
  induction d with
  | zero => intro j as M K K' _ h; exact h.elim
  | succ d ih => intro j as M K K' hK h; exact ⟨h.1, h.2.1, qJ_mono ih hK h.2.2⟩
/-- the start of a method -/
theorem qWP_of {d j : Nat} {as : List Value} {M : qM} {Q : qP} (T : qT) (hT : qAll[j]? = some T) (hc : Nat.ble (qCat as) (qLo T) = true) (ls : List (Nat × Value)) (hls : lv_args 0 as = ls) (h : qJ T (qWP d) Q 0 ls [] 0 0 M) : qWP (d + 1) j as M Q := by
  have hj : j < qAll.length := (List.getElem?_eq_some_iff.mp hT).1
  have e : qTab j = T := by simp [qTab, List.getD_eq_getElem?_getD, hT]
  refine ⟨hj, by rw [e]; exact hc, ?_⟩
  rw [e, hls]
  exact h
