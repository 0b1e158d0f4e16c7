section QCALL
variable {G : qCx} {T : qT} {ad0 : Nat → Nat} {n0 d : Nat} {p : Program} {l : Launch} {e : Env} {R : Room} {s : State} {m : MethodId} {args : Array Value} {below : List Frame} {meth : Method} {c : Code} {Qf : State → Prop}
variable {pc : Nat} {ls : List (Nat × Value)} {st : List Value} {uc us : Nat} {M : qM} {Q : qP}
theorem qTake_of : ∀ (n : Nat) (acc st : List Value) (k : List Value → List Value → Prop), qTake n acc st k → ∃ as st', st = as ++ st' ∧ as.length = n ∧ k (as.reverse ++ acc) st' := by
  intro n
  induction n with
  | zero => intro acc st k h; exact ⟨[], st, rfl, rfl, h⟩
  | succ n ih =>
    intro acc st k h
    cases st with
    | nil => exact h.elim
    | cons v r =>
      obtain ⟨as, st', h1, h2, h3⟩ := ih (v :: acc) r k h
      exact ⟨v :: as, st', by rw [h1]; rfl, by simp [h2], by simpa using h3⟩
/-- behind a call -/
theorem q_run {T' : qT} {Q' : qP} {ad : Nat → Nat} {n1 : Nat} {H : Heap} {locs : List Loc} {lsA : Array Slot} {st0 rest : List Value} {a : Array Value} (hr : va_Run p l e R s m args below meth c H locs uc us (qMc T') (qMs T') (F0 m pc lsA st0) rest (qQc G T' Q' ad n1 a) (qAr G)) (hS : va_S (qAr G) s.heap H locs)
    (kk : ∀ (v : Option Value) (M' : qM) (ad' : Nat → Nat) (H1 : Heap) (locs1 : List Loc), Q' v M' → (qPh T' = true → qStat M') → n1 ≤ M'.1 → (∀ k, k < n1 + 2 → ad' k = ad k) → (qMc T' = 0 → ad' = ad) → qRep G ad' M' H1 → va_S (qAr G) s.heap H1 locs1 → W p l e R s m args below meth c H1 locs1 (uc + qMc T') (us + qMs T') Qf (F0 m (pc + 3) lsA ((v.map (qV ad')).toList ++ rest))) :
    W p l e R s m args below meth c H locs uc us Qf (F0 m pc lsA st0) := by
  intro U hU X
  obtain ⟨v, st₀, t, T1, L, h0, X1, hL, e1, e2, ⟨⟨v', M', ad', hv, hq, g0, g1, g2, g3, g4⟩, hz, hk⟩, hst⟩ := hr U hU X
  have hv : v = v'.map (qV ad') := by cases hv; rfl
  subst hv
  rw [h0] at hz hk
  have hS1 : va_S (qAr G) s.heap T1.heap (locs ++ L) := by
    refine ⟨Nat.le_trans hS.1 (by rw [e1]; exact hz), fun q h1 h2 => ?_, fun q hq => ?_⟩
    · rw [e1, hk q (Nat.lt_of_lt_of_le h1 hS.1) h2]
      exact hS.2.1 q h1 h2
    · rcases List.mem_append.mp hq with h | h
      · exact hS.2.2 q h
      · exact hL q h
  obtain ⟨t2, a1, b1⟩ := kk v' M' ad' T1.heap (locs ++ L) hq g0 g1 g2 g3 (by rw [e1]; exact g4) hS1 T1 rfl X1
  exact ⟨t2, hst t2 a1, b1⟩
/-- a method's start, from where it is called -/
theorem q_pre {T' : qT} {ad : Nat → Nat} {as : List Value} {H : Heap} {locs : List Loc} (hF : qFr G T d p R s m args meth c) (hP : qRep G ad M H) (hS : va_S (qAr G) s.heap H locs) (hst : qPh T' = true → qStat M) : FrameBlind (qPc G T' ad as M) ∧ ∀ U : State, U.heap = H → s.WarmedH U.vm → qPc G T' ad as M (as.map (qV ad)).toArray U := by
  refine ⟨fun a U g mk q => ?_, fun U hU hW => ?_⟩
  · obtain ⟨q1, q2, q3, q4, q5⟩ := q
    exact ⟨q1, q2, qOn.same (s := U) (U := U.calling g mk a) rfl rfl q3, q4, q5⟩
  · refine ⟨rfl, by rw [hU]; exact hP, qOn.to hW (fun a h1 h2 => by rw [hU]; exact hS.2.1 a h1 h2) hF.2.2.2.2.2.2.2.2.1, hst, ?_⟩
    rw [hU]
    exact Nat.le_trans hF.2.2.2.2.2.2.2.2.2.2 hS.1
theorem qMake_of {T' : qT} {n : Nat} {k : Prop} (h : qMake T' n ls st k) : (qMc T' = 0 ∨ (qRefs n st ∧ qRefs n (ls.map Prod.snd))) ∧ k := by
  unfold qMake at h
  cases hb : Nat.beq (qMc T') 0 with
  | true =>
    rw [hb] at h
    exact ⟨Or.inl (Nat.eq_of_beq_eq_true hb), h⟩
  | false =>
    rw [hb] at h
    exact ⟨Or.inr h.1, h.2⟩
theorem qPhCall_of {T' : qT} {k : Prop} (hs : qPh T = true → qStat M) (h : qPhCall T T' M k) : (qPh T' = true → qStat M) ∧ k := by
  unfold qPhCall at h
  cases hb : (!(qPh T) && qPh T') with
  | true =>
    rw [hb] at h
    exact ⟨fun _ => h.1, h.2⟩
  | false =>
    rw [hb] at h
    refine ⟨fun h' => ?_, h⟩
    cases ht : qPh T with
    | true => exact hs ht
    | false => rw [ht, h'] at hb; cases hb
theorem qPhBack_of {T' : qT} {k : Prop} (h : qPhBack T T' M k) : (qPh T = true → qPh T' = false → qStat M) ∧ k := by
  unfold qPhBack at h
  cases hb : (qPh T && !(qPh T')) with
  | true =>
    rw [hb] at h
    exact ⟨fun _ _ => h.1, h.2⟩
  | false =>
    rw [hb] at h
    refine ⟨fun h1 h2 => ?_, h⟩
    rw [h1, h2] at hb
    cases hb
theorem q_lny {j : Nat} (h : j < 9990) : qLnY j = qY (qTab j) := by
  have key : ∀ n, 9990 ≤ n → Nat.beq j n = false := by
    intro n hn
    cases hb : Nat.beq j n with
    | true =>
      have := Nat.eq_of_beq_eq_true hb
      omega
    | false => rfl
  unfold qLnY
  rw [key 9999 (by omega), key 9998 (by omega), key 9991 (by omega), key 9992 (by omega), key 9993 (by omega)]
  rfl
theorem q_viF : ∀ j ∈ qViL, j < 9990 ∧ j ∈ qCoL ∧ qOc (qTab j) < 13 := by decide +kernel
theorem q_stF : ∀ j ∈ qStL, j < 9990 ∧ j ∈ qCoL := by decide +kernel
theorem q_spF : ∀ j ∈ qSpL, j < 9990 ∧ j ∈ qCoL ∧ (qY (qTab j)).name = "<init>" ∧ qRt (qTab j) = none := by decide +kernel
/-- what a method's own check gives of its name -/
theorem q_okf {T' : qT} (h : qOKm T' = true) : (qY T').cls = qCn (qOc T') ∧ plainName (qY T').cls = true ∧ (parseMethodDescriptor (qY T').desc).map (fun d => d.parameters.length) = some (qNa T') ∧ (qY T').cls ≠ "java/lang/invoke/MethodHandle" ∧ (qY T').cls ≠ "java/lang/invoke/VarHandle" ∧ qLo T' ≤ 21 := by
  unfold qOKm at h
  simp only [Bool.and_eq_true, decide_eq_true_eq, Nat.ble_eq] at h
  exact ⟨h.2.1, h.2.2.1, h.2.2.2.1, h.2.2.2.2.1, h.2.2.2.2.2.1, h.2.2.2.2.2.2⟩
/-- a call: what is common to all kinds -/
theorem qs_call {cs : qC} {j : Nat} {as rest st0 : List Value} {ad : Nat → Nat} {H : Heap} {locs : List Loc} {lsA : Array Slot} {X : qX} (hX : ∀ pc ls st uc us M, X pc ls st uc us M → qS G T ad0 n0 p l e R s m args below meth c Qf pc ls st uc us M) (hcs : qHc G l d cs)
    (h : qCall T cs j as ls rest M uc us (fun st2 uc2 us2 M2 => X (pc + 3) ls st2 uc2 us2 M2))
    (h3 : qPh T = true → qStat M) (h4 : n0 ≤ M.1) (h5 : ∀ k, k < n0 + 2 → ad k = ad0 k) (h6 : qMc T = 0 → ad = ad0) (hl : lv_has lsA (qLo T) (qLs ad ls)) (hS : va_S (qAr G) s.heap H locs)
    (hrun : ∀ Q2 : qP, Met l (qY (qTab j)) (qWs (qTab j)) (qRm (qTab j) d) (qPc G (qTab j) ad as M) (qQc G (qTab j) Q2 ad M.1) (qMc (qTab j)) (qMs (qTab j)) (qAr G) → qOKm (qTab j) = true → (qPh (qTab j) = true → qStat M) → qCat rest ≤ 8 → uc + qMc (qTab j) ≤ qMc T ∧ us + qMs (qTab j) ≤ qMs T →
      va_Run p l e R s m args below meth c H locs uc us (qMc (qTab j)) (qMs (qTab j)) (F0 m pc lsA st0) (rest.map (qV ad)) (qQc G (qTab j) Q2 ad M.1 (as.map (qV ad)).toArray) (qAr G)) :
    W p l e R s m args below meth c H locs uc us Qf (F0 m pc lsA st0) := by
  unfold qCall at h
  obtain ⟨hcat, hA⟩ := qIf_of h
  obtain ⟨hmk, hB⟩ := qMake_of hA
  obtain ⟨hph, hroom, hC⟩ := qPhCall_of h3 hB
  obtain ⟨hj, hM⟩ := hcs _ _ _ _ ad hC
  refine q_run (hrun _ hM (qTab_ok hj) hph (Nat.ble_eq.mp hcat) hroom) hS fun v M2 ad2 H1 locs1 hq g0 g1 g2 g3 hP1 hS1 => ?_
  obtain ⟨hst, hD⟩ := qPhBack_of hq
  have hsm : rest.map (qV ad2) = rest.map (qV ad) ∧ qLs ad2 ls = qLs ad ls := by
    rcases hmk with z | ⟨z1, z2⟩
    · rw [g3 z]; exact ⟨rfl, rfl⟩
    · exact ⟨qRefs_map (fun k hk => g2 k hk) rest z1, qRefs_ls (fun k hk => g2 k hk) ls z2⟩
  have hh := hX _ _ _ _ _ _ hD hroom.1 hroom.2 (fun hp => by
    cases hp2 : qPh (qTab j) with
    | true => exact g0 hp2
    | false => exact hst hp hp2) (Nat.le_trans h4 g1) ad2 (fun k hk => (g2 k (by omega)).trans (h5 k hk)) (fun hz => by rw [g3 (by omega), h6 hz]) H1 locs1 lsA (by rw [hsm.2]; exact hl) hP1 hS1
  rw [List.map_append, hsm.1] at hh
  have e1 : (v.toList).map (qV ad2) = (v.map (qV ad2)).toList := by cases v <;> rfl
  rw [e1] at hh
  exact hh
theorem qs_virtual {cs : qC} {j : Nat} {len : Nat} (hF : qFr G T d p R s m args meth c) {X : qX} (hX : ∀ pc ls st uc us M, X pc ls st uc us M → qS G T ad0 n0 p l e R s m args below meth c Qf pc ls st uc us M) (hcs : qHc G l d cs) (hk : qChk T (pc, .invokevirtual j, len) = true)
    (h : qTake (qNa (qTab j)) [] st fun as st2 => qA1 st2 fun b rest => qIs b (qOc (qTab j)) (qIn (qPh T) b M (qCall T cs j (.ref b :: as) ls rest M uc us fun st3 uc2 us2 M2 => X (pc + len) ls st3 uc2 us2 M2))) : qS G T ad0 n0 p l e R s m args below meth c Qf pc ls st uc us M := by
  obtain ⟨raw, hr, hd, hl3, -⟩ := q_dec hk
  have hl3 : len = 3 := hl3
  subst hl3
  have hr2 : (bif qViL.elem j then (qIx qML (qOc T) j).map Instr.invokevirtual else none) = some raw := hr
  cases hv : qViL.elem j with
  | false => rw [hv] at hr2; cases hr2
  | true =>
    rw [hv] at hr2
    have hvi : j ∈ qViL := List.elem_iff.mp hv
    cases hx : qIx qML (qOc T) j with
    | none => rw [hx] at hr2; cases hr2
    | some x =>
      rw [hx] at hr2
      have hraw : raw = .invokevirtual x := (Option.some.inj hr2).symm
      subst hraw
      obtain ⟨lA, st2, hst, hln, hA⟩ := qTake_of _ _ _ _ h
      obtain ⟨b, rest, hst2, hB⟩ := qA1_of hA
      subst hst2
      subst hst
      obtain ⟨hkb, hC⟩ := qIs_of hB
      rw [List.append_nil] at hC
      intro h1 h2 h3 h4 ad h5 h6 H locs lsA hl hP hS
      obtain ⟨hlt, hD⟩ := qIn_of h3 hC
      obtain ⟨v1, v2, v3⟩ := q_viF j hvi
      refine qs_call hX hcs hD h3 h4 h5 h6 hl hS fun Q2 hM hok hph hcat hroom => ?_
      obtain ⟨o1, o2, o3, o4, o5, o6⟩ := q_okf hok
      have hts := hF.2.2.2.2.2.2.2.1
      have hR := hF.2.2.2.2.2.2.2.2.2.1
      have hOn := hF.2.2.2.2.2.2.2.2.1
      obtain ⟨c1, c2, c3, c4, c5, c6, c7⟩ := q_cls v3
      have he := qW_get (ad := ad) (F := qF G ad M) (qK_lo hkb (by omega)) hlt
      rw [qF_obj hkb v3] at he
      have hml := q_ml (qOc T, j, x) (qIx_mem _ _ _ _ hx)
      dsimp only at hml
      rw [q_lny v1] at hml
      have hgood : GoodIn qTbl (wsV (qCn (qOc T)) x (qY (qTab j)).cls (qY (qTab j)) (qWs (qTab j))) := by
        refine q_good fun w hw => ?_
        unfold wsV qWs at hw
        simp only [List.cons_append, List.nil_append, List.mem_cons] at hw
        rcases hw with rfl | rfl | rfl | rfl | rfl | hw
        · exact hml
        · exact q_vi j hvi
        · exact q_vs j hvi
        · exact q_mi j v2
        · exact q_co j v2
        · exact hw
      have hrec := va_recv hOn.1 hP.1 c1 he
      rw [c7, ← o1] at hrec
      have hpre := q_pre (T' := qTab j) (ad := ad) (as := .ref b :: lA.reverse) hF hP hS hph
      exact va_runV (As := (lA.reverse).map (qV ad)) (rest := rest.map (qV ad)) (b := ad b) (g := F0 m pc lsA ((lA ++ .ref b :: rest).map (qV ad))) ⟨hF.1, hF.2.1, hF.2.2.1, hF.2.2.2.2.2.2.1, hts⟩ hM (cwV (qNa (qTab j)) hts hgood rfl rfl rfl ⟨rfl, o4, o5, o3⟩ ⟨by show d + 1 ≤ _; omega, by show 8 + (qLo (qTab j) + 11) + 40 * d ≤ _; omega⟩) ⟨hpre.1, hrec, hpre.2⟩ rfl (by simp [hln]) hl.1 (by simp [qV]) (lv_room (by rw [qCat_sum]; exact hcat)) hd ⟨by omega, by omega⟩
theorem qs_static {cs : qC} {j : Nat} {len : Nat} (hj9 : Nat.ble 9990 j = false) (hF : qFr G T d p R s m args meth c) {X : qX} (hX : ∀ pc ls st uc us M, X pc ls st uc us M → qS G T ad0 n0 p l e R s m args below meth c Qf pc ls st uc us M) (hcs : qHc G l d cs) (hk : qChk T (pc, .invokestatic j, len) = true)
    (h : qTake (qNa (qTab j)) [] st fun as rest => qCall T cs j as ls rest M uc us fun st3 uc2 us2 M2 => X (pc + len) ls st3 uc2 us2 M2) : qS G T ad0 n0 p l e R s m args below meth c Qf pc ls st uc us M := by
  obtain ⟨raw, hr, hd, hl3, -⟩ := q_dec hk
  have hl3 : len = 3 := hl3
  subst hl3
  have hr2 : (bif (Nat.ble 9990 j || qStL.elem j) then (qIx qML (qOc T) j).map Instr.invokestatic else none) = some raw := hr
  rw [hj9, Bool.false_or] at hr2
  cases hv : qStL.elem j with
  | false => rw [hv] at hr2; cases hr2
  | true =>
    rw [hv] at hr2
    have hvi : j ∈ qStL := List.elem_iff.mp hv
    cases hx : qIx qML (qOc T) j with
    | none => rw [hx] at hr2; cases hr2
    | some x =>
      rw [hx] at hr2
      have hraw : raw = .invokestatic x := (Option.some.inj hr2).symm
      subst hraw
      obtain ⟨lA, rest, hst, hln, hA⟩ := qTake_of _ _ _ _ h
      subst hst
      rw [List.append_nil] at hA
      intro h1 h2 h3 h4 ad h5 h6 H locs lsA hl hP hS
      obtain ⟨v1, v2⟩ := q_stF j hvi
      refine qs_call hX hcs hA h3 h4 h5 h6 hl hS fun Q2 hM hok hph hcat hroom => ?_
      obtain ⟨o1, o2, o3, o4, o5, o6⟩ := q_okf hok
      have hts := hF.2.2.2.2.2.2.2.1
      have hR := hF.2.2.2.2.2.2.2.2.2.1
      have hml := q_ml (qOc T, j, x) (qIx_mem _ _ _ _ hx)
      dsimp only at hml
      rw [q_lny v1] at hml
      have hgood : GoodIn qTbl (va_wsS (qCn (qOc T)) x (qY (qTab j)) (qWs (qTab j))) := by
        refine q_good fun w hw => ?_
        unfold va_wsS qWs at hw
        simp only [List.cons_append, List.nil_append, List.mem_cons] at hw
        rcases hw with rfl | rfl | rfl | rfl | hw
        · exact hml
        · exact q_st j hvi
        · exact q_mi j v2
        · exact q_co j v2
        · exact hw
      have hpre := q_pre (T' := qTab j) (ad := ad) (as := lA.reverse) hF hP hS hph
      exact va_runS (As := (lA.reverse).map (qV ad)) (rest := rest.map (qV ad)) (g := F0 m pc lsA ((lA ++ rest).map (qV ad))) ⟨hF.1, hF.2.1, hF.2.2.1, hF.2.2.2.2.2.2.1, hts⟩ hM (va_cwS (qNa (qTab j)) hts hgood rfl rfl rfl ⟨o4, o5, o3⟩ ⟨by show d + 1 ≤ _; omega, by show 8 + (qLo (qTab j) + 11) + 40 * d ≤ _; omega⟩) hpre rfl (by simp [hln]) hl.1 (by simp) (lv_room (by rw [qCat_sum]; exact hcat)) hd ⟨by omega, by omega⟩
theorem qs_special {cs : qC} {j : Nat} {len : Nat} (hj9 : Nat.beq j 9999 = false) (hF : qFr G T d p R s m args meth c) {X : qX} (hX : ∀ pc ls st uc us M, X pc ls st uc us M → qS G T ad0 n0 p l e R s m args below meth c Qf pc ls st uc us M) (hcs : qHc G l d cs) (hk : qChk T (pc, .invokespecial j, len) = true)
    (h : qTake (qNa (qTab j)) [] st fun as st2 => qA1 st2 fun b rest => qCall T cs j (.ref b :: as) ls rest M uc us fun st3 uc2 us2 M2 => X (pc + len) ls st3 uc2 us2 M2) : qS G T ad0 n0 p l e R s m args below meth c Qf pc ls st uc us M := by
  obtain ⟨raw, hr, hd, hl3, -⟩ := q_dec hk
  have hl3 : len = 3 := hl3
  subst hl3
  have hr2 : (bif (Nat.beq j 9999 || qSpL.elem j) then ((match qIx qMN (qOc T) j with | some x => some x | none => qIx qML (qOc T) j).map Instr.invokespecial) else none) = some raw := hr
  rw [hj9, Bool.false_or] at hr2
  cases hv : qSpL.elem j with
  | false => rw [hv] at hr2; cases hr2
  | true =>
    rw [hv] at hr2
    have hvi : j ∈ qSpL := List.elem_iff.mp hv
    obtain ⟨lA, st2, hst, hln, hA⟩ := qTake_of _ _ _ _ h
    obtain ⟨b, rest, hst2, hB⟩ := qA1_of hA
    subst hst2
    subst hst
    rw [List.append_nil] at hB
    intro h1 h2 h3 h4 ad h5 h6 H locs lsA hl hP hS
    obtain ⟨v1, v2, v3, v4⟩ := q_spF j hvi
    refine qs_call hX hcs hB h3 h4 h5 h6 hl hS fun Q2 hM hok hph hcat hroom => ?_
    obtain ⟨o1, o2, o3, o4, o5, o6⟩ := q_okf hok
    have hts := hF.2.2.2.2.2.2.2.1
    have hR := hF.2.2.2.2.2.2.2.2.2.1
    have hOn := hF.2.2.2.2.2.2.2.2.1
    have hpre := q_pre (T' := qTab j) (ad := ad) (as := .ref b :: lA.reverse) hF hP hS hph
    have hcw : qWs (qTab j) = Cond.code (qY (qTab j)) (qB (qTab j)) (qLo (qTab j)) none :: qTbl := by
      unfold qWs
      rw [v4]
    have hgood : GoodIn qTbl (qWs (qTab j)) := by
      refine q_good fun w hw => ?_
      unfold qWs at hw
      rcases List.mem_cons.mp hw with rfl | hw
      · exact q_co j v2
      · exact hw
    have hrr : d + 1 ≤ R.frames ∧ 8 + (qLo (qTab j) + 11) + 40 * d ≤ R.locals := ⟨by omega, by omega⟩
    cases hxn : qIx qMN (qOc T) j with
    | some x =>
      rw [hxn] at hr2
      have hraw : raw = .invokespecial x := (Option.some.inj hr2).symm
      subst hraw
      have hml := hOn.2.2.2.2.1 (qOc T, j, x) (qIx_mem _ _ _ _ hxn)
      dsimp only at hml
      rw [q_lny v1] at hml
      exact va_runIN (As := (lA.reverse).map (qV ad)) (rest := rest.map (qV ad)) (b := ad b) (g := F0 m pc lsA ((lA ++ .ref b :: rest).map (qV ad))) ⟨hF.1, hF.2.1, hF.2.2.1, hF.2.2.2.2.2.2.1, hts⟩ hM ⟨va_cnB (qNa (qTab j)) hts hgood hcw rfl rfl hml (hts _ (q_mi j v2)) ⟨o4, o5, o3⟩ hrr, v3, hts _ (q_sp j hvi)⟩ hpre rfl (by simp [hln]) hl.1 (by simp [qV]) (lv_room (by rw [qCat_sum]; exact hcat)) hd ⟨by omega, by omega⟩
    | none =>
      rw [hxn] at hr2
      cases hx : qIx qML (qOc T) j with
      | none => rw [hx] at hr2; cases hr2
      | some x =>
        rw [hx] at hr2
        have hraw : raw = .invokespecial x := (Option.some.inj hr2).symm
        subst hraw
        have hml := q_ml (qOc T, j, x) (qIx_mem _ _ _ _ hx)
        dsimp only at hml
        rw [q_lny v1] at hml
        exact va_runI (As := (lA.reverse).map (qV ad)) (rest := rest.map (qV ad)) (b := ad b) (g := F0 m pc lsA ((lA ++ .ref b :: rest).map (qV ad))) ⟨hF.1, hF.2.1, hF.2.2.1, hF.2.2.2.2.2.2.1, hts⟩ hM (cwI (qNa (qTab j)) hts hgood hcw rfl rfl (hts _ (q_mi j v2)) (hts _ hml) (hts _ (q_sp j hvi)) v3 ⟨o4, o5, o3⟩ hrr) hpre rfl (by simp [hln]) hl.1 (by simp [qV]) (lv_room (by rw [qCat_sum]; exact hcat)) hd ⟨by omega, by omega⟩
end QCALL
