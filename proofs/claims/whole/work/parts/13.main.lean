section QMAIN
variable {G : qCx} {T : qT} {ad0 : Nat → Nat} {n0 d : Nat} {p : Program} {l : Launch} {e : Env} {R : Room} {s : State} {m : MethodId} {args : Array Value} {below : List Frame} {meth : Method} {c : Code} {Qf : State → Prop}
variable {pc : Nat} {ls : List (Nat × Value)} {st : List Value} {uc us : Nat} {M : qM} {Q : qP}
/-- ONE INSTRUCTION -/
theorem q_step {cs : qC} (hF : qFr G T d p R s m args meth c) (hT : qOKm T = true) (hR : qRet G T Q ad0 n0 p l e R s m args below meth c Qf) (hcs : qHc G l d cs) {X : qX} (hX : ∀ pc ls st uc us M, X pc ls st uc us M → qS G T ad0 n0 p l e R s m args below meth c Qf pc ls st uc us M)
    (h : qStep T cs Q X pc ls st uc us M) : qS G T ad0 n0 p l e R s m args below meth c Qf pc ls st uc us M := by
  unfold qStep at h
  cases hq : qFindB (qBl T) pc with
  | none => rw [hq] at h; exact h.elim
  | some il =>
    obtain ⟨ins, len⟩ := il
    rw [hq] at h
    have hk := q_chk hT hq
    dsimp only at h
    cases ins with
    | iconst k => exact qs_iconst hF hX hk h
    | bipush k => exact qs_bipush hF hX hk h
    | sipush k => exact qs_sipush hF hX hk h
    | lconst k => exact qs_lconst hF hX hk h
    | ldc k => exact qs_ldc hF hX hk h
    | ldc_w k => exact qs_ldc_w hF hX hk h
    | ldc2_w k => exact qs_ldc2_w hF hX hk h
    | iload k => exact qs_iload hF hX hk h
    | iload_n k => exact qs_iload_n hF hX hk h
    | lload k => exact qs_lload hF hX hk h
    | lload_n k => exact qs_lload_n hF hX hk h
    | aload k => exact qs_aload hF hX hk h
    | aload_n k => exact qs_aload_n hF hX hk h
    | istore k => exact qs_istore hF hX hk h
    | istore_n k => exact qs_istore_n hF hX hk h
    | lstore k => exact qs_lstore hF hX hk h
    | lstore_n k => exact qs_lstore_n hF hX hk h
    | astore k => exact qs_astore hF hX hk h
    | astore_n k => exact qs_astore_n hF hX hk h
    | goto k => exact qs_goto hF hX hk h
    | ifnull k => exact qs_ifnull hF hX hk h
    | ifnonnull k => exact qs_ifnonnull hF hX hk h
    | getstatic k => exact qs_getstatic hF hX hk h
    | getfield k => exact qs_getfield hF hX hk h
    | putfield k => exact qs_putfield hF hX hk h
    | new k => exact qs_new hF hX hk h
    | anewarray k => exact qs_anewarray hF hX hk h
    | iadd => exact qs_iadd hF hX hk h
    | isub => exact qs_isub hF hX hk h
    | imul => exact qs_imul hF hX hk h
    | iand => exact qs_iand hF hX hk h
    | ior => exact qs_ior hF hX hk h
    | ixor => exact qs_ixor hF hX hk h
    | ishl => exact qs_ishl hF hX hk h
    | ishr => exact qs_ishr hF hX hk h
    | iushr => exact qs_iushr hF hX hk h
    | idiv => exact qs_idiv hF hX hk h
    | ineg => exact qs_ineg hF hX hk h
    | ladd => exact qs_ladd hF hX hk h
    | lsub => exact qs_lsub hF hX hk h
    | land => exact qs_land hF hX hk h
    | lor => exact qs_lor hF hX hk h
    | ldiv => exact qs_ldiv hF hX hk h
    | lrem => exact qs_lrem hF hX hk h
    | lneg => exact qs_lneg hF hX hk h
    | lshl => exact qs_lshl hF hX hk h
    | lshr => exact qs_lshr hF hX hk h
    | lushr => exact qs_lushr hF hX hk h
    | lcmp => exact qs_lcmp hF hX hk h
    | i2l => exact qs_i2l hF hX hk h
    | l2i => exact qs_l2i hF hX hk h
    | i2b => exact qs_i2b hF hX hk h
    | iaload => exact qs_iaload hF hX hk h
    | baload => exact qs_baload hF hX hk h
    | laload => exact qs_laload hF hX hk h
    | aaload => exact qs_aaload hF hX hk h
    | iastore => exact qs_iastore hF hX hk h
    | bastore => exact qs_bastore hF hX hk h
    | lastore => exact qs_lastore hF hX hk h
    | aastore => exact qs_aastore hF hX hk h
    | aconst_null => exact qs_null hF hX hk h
    | arraylength => exact qs_alen hF hX hk h
    | iinc k n => exact qs_iinc hF hX hk h
    | dup => cases st with
      | nil => exact h.elim
      | cons v r => exact qs_dup hF hX hk h
    | pop => cases st with
      | nil => exact h.elim
      | cons v r => exact qs_pop hF hX hk h
    | ifCond cd t => cases cd with
      | eq => exact qs_if_eq hF hX hk h
      | ne => exact qs_if_ne hF hX hk h
      | lt => exact qs_if_lt hF hX hk h
      | ge => exact qs_if_ge hF hX hk h
      | gt => exact qs_if_gt hF hX hk h
      | le => exact qs_if_le hF hX hk h
    | if_icmp cd t => cases cd with
      | eq => exact qs_icmp_eq hF hX hk h
      | ne => exact qs_icmp_ne hF hX hk h
      | lt => exact qs_icmp_lt hF hX hk h
      | ge => exact qs_icmp_ge hF hX hk h
      | gt => exact qs_icmp_gt hF hX hk h
      | le => exact qs_icmp_le hF hX hk h
    | tableswitch a b c2 d2 => exact qs_table hF hX hk h
    | lookupswitch a b => exact qs_lookup hF hX hk h
    | newarray ty => exact qs_newarray hF hX h hk
    | invokevirtual j => exact qs_virtual hF hX hcs hk h
    | invokestatic j =>
      dsimp only at h
      cases hb : Nat.beq j 9998 with
      | true =>
        rw [hb] at h
        have := Nat.eq_of_beq_eq_true hb
        subst this
        exact qs_copy hF hX hk h
      | false =>
        rw [hb] at h
        dsimp only at h
        cases h9 : Nat.ble 9990 j with
        | false =>
          rw [h9] at h
          exact qs_static h9 hF hX hcs hk h
        | true =>
          rw [h9] at h
          dsimp only at h
          unfold qMath at h
          cases h3 : Nat.beq j 9993 with
          | true =>
            rw [h3] at h
            have := Nat.eq_of_beq_eq_true h3
            subst this
            exact qs_mabs hF hX hk h
          | false =>
            rw [h3] at h
            dsimp only at h
            cases h2 : Nat.beq j 9992 with
            | true =>
              rw [h2] at h
              have := Nat.eq_of_beq_eq_true h2
              subst this
              exact qs_mmin hF hX hk h
            | false =>
              rw [h2] at h
              dsimp only at h
              cases h1 : Nat.beq j 9991 with
              | true =>
                rw [h1] at h
                have := Nat.eq_of_beq_eq_true h1
                subst this
                exact qs_mmax hF hX hk h
              | false => rw [h1] at h; exact h.elim
    | invokespecial j =>
      dsimp only at h
      cases hb : Nat.beq j 9999 with
      | true =>
        rw [hb] at h
        have := Nat.eq_of_beq_eq_true hb
        subst this
        exact qs_obj hF hX hk h
      | false =>
        rw [hb] at h
        exact qs_special hb hF hX hcs hk h
    | ireturn =>
      dsimp only at h
      split at h
      · split at h
        · rename_i ht
          exact qs_iret hF hX hR hk (Or.inl ht) h
        · rename_i ht
          exact qs_iret hF hX hR hk (Or.inr ⟨ht, h.1⟩) h.2
        · exact h.elim
      · exact h.elim
    | lreturn =>
      dsimp only at h
      split at h
      · exact qs_lret hF hX hR hk h
      · exact h.elim
    | areturn =>
      dsimp only at h
      split at h
      · exact qs_aretr hF hX hR hk h
      · exact qs_aretn hF hX hR hk h
      · exact h.elim
    | return_ =>
      dsimp only at h
      split at h
      · exact qs_vret hF hX hR hk h
      · exact h.elim
    | _ => exact h.elim
theorem q_runs {cs : qC} (hF : qFr G T d p R s m args meth c) (hT : qOKm T = true) (hR : qRet G T Q ad0 n0 p l e R s m args below meth c Qf) (hcs : qHc G l d cs) {X : qX} (hX : ∀ pc ls st uc us M, X pc ls st uc us M → qS G T ad0 n0 p l e R s m args below meth c Qf pc ls st uc us M) (cuts : List Nat) :
    ∀ (n : Nat) (pc : Nat) (ls : List (Nat × Value)) (st : List Value) (uc us : Nat) (M : qM), qRun T cs Q X cuts n pc ls st uc us M → qS G T ad0 n0 p l e R s m args below meth c Qf pc ls st uc us M := by
  intro n
  induction n with
  | zero => exact hX
  | succ n ih =>
    intro pc ls st uc us M h
    refine q_step hF hT hR hcs (X := fun pc ls st uc us M => match cuts.elem pc with
      | true => X pc ls st uc us M
      | false => qRun T cs Q X cuts n pc ls st uc us M) (fun pc ls st uc us M h2 => ?_) h
    split at h2
    · exact hX _ _ _ _ _ _ h2
    · exact ih _ _ _ _ _ _ h2
theorem q_js {cs : qC} (hF : qFr G T d p R s m args meth c) (hT : qOKm T = true) (hR : qRet G T Q ad0 n0 p l e R s m args below meth c Qf) (hcs : qHc G l d cs) (h : qJ T cs Q pc ls st uc us M) : qS G T ad0 n0 p l e R s m args below meth c Qf pc ls st uc us M :=
  h _ (fun cuts n pc ls st uc us M h2 => q_runs hF hT hR hcs (fun _ _ _ _ _ _ z => z) cuts (n + 1) pc ls st uc us M h2)
theorem q_args (ad : Nat → Nat) : ∀ (as : List Value) (i : Nat), lv_args i (as.map (qV ad)) = qLs ad (lv_args i as) := by
  intro as
  induction as with
  | nil => intro i; rfl
  | cons v r ih =>
    intro i
    simp only [List.map_cons, lv_args, qV_cat]
    rw [ih]
    rfl
end QMAIN
/-- EVERY METHOD: what the plain machine says of a call holds of the given one -/
theorem q_met (G : qCx) (l : Launch) : ∀ d : Nat, qHc G l d (qWP d) := by
  intro d
  induction d with
  | zero => intro j as M Q ad h; exact h.elim
  | succ d ih =>
    intro j as M Q ad h
    obtain ⟨hj, hcat, hJ⟩ := h
    refine ⟨hj, ?_⟩
    have hok := qTab_ok hj
    obtain ⟨o1, o2, o3, o4, o5, o6⟩ := q_okf hok
    generalize qTab j = T at hcat hJ hok o1 o2 o3 o4 o5 o6 ⊢
    refine Met.ofW (cc := qB T) (maxL := qLo T) (ret := qRt T) o2 rfl ?_
    intro p e s m args below meth c s₁ B hml hv
    obtain ⟨rfl, hP, hOn, hst, hs0⟩ := hv
    have hown : s.vm.findClass (qY T).cls = some m.cls := findClass_of_methodNamed B.named
    have hts := atoms_spec (ws := qWs T) B.pre
    have hlocks := B.notSynchronized
    have hF : qFr G T d p (headSpec (qWs T) (qRm T (d + 1))).room s m (as.map (qV ad)).toArray meth c := ⟨B.exec, B.bytes, hml, B.returns, B.notSynchronized, fun hn => (name_of_methodNamed B.named B.method).1.trans hn, by rw [← o1]; exact hown, fun w hw => hts w (List.mem_cons_of_mem _ hw), hOn, ⟨Nat.le_refl _, Nat.le_refl _, Nat.le_refl _, Nat.le_refl _⟩, hs0⟩
    have hR : qRet G T Q ad M.1 p l e (headSpec (qWs T) (qRm T (d + 1))).room s m (as.map (qV ad)).toArray below meth c (MQ below (qQc G T Q ad M.1) (as.map (qV ad)).toArray s (qMc T) (qMs T) (qAr G)) := by
      intro pc ins v M2 ad2 H locs lsA hd hrk hq g1 g0 g2 g3 hP2 hS
      have hQ : ∀ t : State, t.heap = H → s.WarmedH t.vm → qQc G T Q ad M.1 (as.map (qV ad)).toArray s (.returned (v.map (qV ad2))) t := fun t ht _ => ⟨⟨v, M2, ad2, rfl, hq, g0, g1, g2, g3, by rw [ht]; exact hP2⟩, hS.F ht⟩
      rcases hrk with ⟨x, rfl, rfl, hx⟩ | ⟨x, rfl, rfl, hx⟩ | ⟨w, rfl, rfl, hw, C, hC⟩ | ⟨rfl, rfl, hx⟩
      · rcases hx with hx | ⟨hx, hz⟩
        · exact W.iret B.exec B.bytes (by rw [B.returns]; exact hx) hQ hS.2.2 hd hlocks
        · exact W.zret (ty := .boolean) B.exec B.bytes (by rw [B.returns]; exact hx) (q_narb hz) hQ hS.2.2 hd hlocks
      · exact W.lret B.exec B.bytes (by rw [B.returns]; exact hx) hQ hS.2.2 hd hlocks
      · refine W.aret B.exec B.bytes (rt := .object C) (by rw [B.returns]; exact hC) (Or.inl ⟨C, rfl⟩) ?_ hQ hS.2.2 hd hlocks
        rcases hw with rfl | ⟨a, rfl⟩
        · exact Or.inl rfl
        · exact Or.inr ⟨ad2 a, rfl⟩
      · exact W.vret B.exec B.bytes (by rw [B.returns]; exact hx) hQ hS.2.2 hd hlocks
    have hl := lv_entry (as.map (qV ad)) (n := qLo T) (by rw [qCat_sl]; exact Nat.le_of_ble_eq_true hcat)
    rw [q_args] at hl
    rw [lg_entry_eq]
    exact q_js hF hok hR ih hJ (Nat.zero_le _) (Nat.zero_le _) hst (Nat.le_refl _) ad (fun _ _ => rfl) (fun _ => rfl) s.heap [] _ hl hP va_S.rf
