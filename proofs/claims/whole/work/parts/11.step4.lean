section QNEW
variable {G : qCx} {T : qT} {ad0 : Nat → Nat} {n0 d : Nat} {p : Program} {l : Launch} {e : Env} {R : Room} {s : State} {m : MethodId} {args : Array Value} {below : List Frame} {meth : Method} {c : Code} {Qf : State → Prop}
variable {pc : Nat} {ls : List (Nat × Value)} {st : List Value} {uc us : Nat} {M : qM}
theorem q_rbrow {M' : qM} (h : qRb M) (hn : M'.1 = M.1 + 1) (hR : M'.2.2.2.2 = M.2.2.2.2 ∨ M'.2.2.2.2 = qRow M.2.2.2.2 (M.1 + 2) (fun _ => none)) : qRb M' := by
  intro k f x hx
  rw [hn]
  rcases hR with hR | hR <;> rw [hR] at hx
  · have := h k f x hx
    omega
  · by_cases hk : k = M.1 + 2
    · subst hk
      rw [qRow_at] at hx
      cases hx
    · rw [qRow_ne hk] at hx
      have := h k f x hx
      omega
theorem q_sts {ad : Nat → Nat} {q n : Nat} (hst : qRefs n st) : st.map (qV (fun k => if k = n then q else ad k)) = st.map (qV ad) := qRefs_map (n := n) (fun k hk => if_neg (by omega)) st hst
theorem q_lss {ad : Nat → Nat} {q n : Nat} (hls : qRefs n (ls.map Prod.snd)) : qLs (fun k => if k = n then q else ad k) ls = qLs ad ls := qRefs_ls (n := n) (fun k hk => if_neg (by omega)) ls hls
theorem qs_new {k : Nat} {len : Nat} (hF : qFr G T d p R s m args meth c) {X : qX} (hX : ∀ pc ls st uc us M, X pc ls st uc us M → qS G T ad0 n0 p l e R s m args below meth c Qf pc ls st uc us M) (hk : qChk T (pc, .new k, len) = true)
    (h : qIf (!(qPh T)) (qIs (M.1 + 2) k ((uc + 1 ≤ qMc T ∧ us + qNf k ≤ qMs T ∧ qRefs (M.1 + 2) st ∧ qRefs (M.1 + 2) (ls.map Prod.snd)) ∧ X (pc + len) ls (.ref (M.1 + 2) :: st) (uc + 1) (us + qNf k) (M.1 + 1, M.2.1, qRow M.2.2.1 (M.1 + 2) (fun _ => 0), M.2.2.2.1, qRow M.2.2.2.2 (M.1 + 2) (fun _ => none))))) : qS G T ad0 n0 p l e R s m args below meth c Qf pc ls st uc us M := by
  obtain ⟨x, hx, hd, rfl, hex⟩ := q_dec2 3 hk rfl rfl
  obtain ⟨hph, h⟩ := qIf_of h
  obtain ⟨hkk, ⟨b1, b2, b3, b4⟩, h⟩ := qIs_of h
  intro h1 h2 h3 h4 ad h5 h6 H locs lsA hl hP hS
  have hc : k < 13 := q_blt.mp hex
  obtain ⟨c1, c2, c3, c4, c5, c6, c7⟩ := q_cls hc
  have hts := hF.2.2.2.2.2.2.2.1
  have hR := hF.2.2.2.2.2.2.2.2.2.1
  have hs0 := hF.2.2.2.2.2.2.2.2.2.2
  have hk13 : k ∈ qC13 := by
    have : ∀ k, k < 13 → k ∈ qC13 := by decide +kernel
    exact this k hc
  refine va_new (D := G.1) (ci := k) (C := (qCls k).1) (T := (qCls k).2.1) (N := (qCls k).2.2) (own := qCn (qOc T)) (fs := (List.range (qNf k)).map (fun j => match Nat.beq (qTf k j) 2 with | true => Value.null | false => .int 0)) hF.1 hF.2.1 hts c2 (qTy k) c5 hF.2.2.2.2.2.2.1 (hts _ (q_cl (qOc T, k, x) (qIx_mem _ _ _ _ hx))) (hts _ (q_cn k hk13)) (hts _ (q_ci k hk13)) hF.2.2.2.2.2.2.2.2.1.1 hP.1 hP.2.1 hS (fun q hq => Nat.le_trans hs0 hq) c1 ?_ (by omega) (by rw [c3]; omega) hd fun q H1 hP1 hD1 hS1 => ?_
  · intro j hj
    have hj' : j < qNf k := by rw [← c3]; exact hj
    have htok := (c6 j hj).2
    have e1 : vp_V ((List.range (qNf k)).map (fun j => match Nat.beq (qTf k j) 2 with | true => Value.null | false => .int 0)) j = (match Nat.beq (qTf k j) 2 with | true => Value.null | false => .int 0) := by
      unfold vp_V
      rw [List.getD_eq_getElem?_getD, q_rng hj']
      rfl
    rw [e1]
    unfold qTok at htok
    split at htok
    · rename_i e1 e2; rw [e1, e2]; rfl
    · rename_i e1 e2; rw [e1, e2]; rfl
    · rename_i e1 e2; rw [e1, e2]; rfl
    · rename_i e1 e2; rw [e1, e2]; rfl
    · cases htok
  · rw [c3]
    have hh := hX _ _ _ _ _ _ h (by omega) (by omega) (fun hq => by rw [hq] at hph; cases hph) (by show n0 ≤ M.1 + 1; omega) (fun k => if k = M.1 + 2 then q else ad k) (fun j hj => by show (if j = M.1 + 2 then q else ad j) = _; rw [if_neg (by omega)]; exact h5 j hj) (fun hz => by omega) H1 locs lsA (by rw [q_lss b4]; exact hl) (qRep_new hP rfl rfl (fun _ _ => rfl) (fun j hj => qRow_ne hj) (fun _ _ => rfl) (fun j hj => qRow_ne hj) ?_ (q_rbrow hP.2.2.2.2.2.2.2 rfl (Or.inr rfl)) hP1 hD1) hS1
    · rw [List.map_cons, q_sts b3] at hh
      have e1 : qV (fun k => if k = M.1 + 2 then q else ad k) (.ref (M.1 + 2)) = .ref q := congrArg Value.ref (if_pos rfl)
      rw [e1] at hh
      exact hh
    · rw [qF_obj hkk hc]
      congr 2
      apply List.map_congr_left
      intro j _
      unfold qFv
      dsimp only
      rw [qRow_at, qRow_at, hkk]
      rfl
/-- a row of the table of row types -/
theorem q_tyeq {cB : ClassId} {ty : FieldType} {t0 : Nat} {cA : ClassId} (hK : va_K G.1 vwCl (qTys G ++ [(cB, ty)]) s) (h0 : (qTys G)[t0]? = some (cA, ty)) (hp : ∀ C, ty ≠ .object C) : cB = cA := by
  have h1 := (hK.2 t0 (cA, ty) (by rw [List.getElem?_append_left (by exact (List.getElem?_eq_some_iff.mp h0).1)]; exact h0)).2
  have h2 := (hK.2 (qTys G).length (cB, ty) (by simp)).2
  cases ty <;> first | exact absurd rfl (hp _) | exact Option.some.inj (h2.symm.trans h1)
theorem q_tyeqO {cB : ClassId} {C : String} {t0 : Nat} {cA : ClassId} (hK : va_K G.1 vwCl (qTys G ++ [(cB, .object C)]) s) (h0 : (qTys G)[t0]? = some (cA, .object C)) : cB = cA := by
  obtain ⟨_, _, _, _, _, h1⟩ := (hK.2 t0 (cA, .object C) (by rw [List.getElem?_append_left (by exact (List.getElem?_eq_some_iff.mp h0).1)]; exact h0)).2
  obtain ⟨_, _, _, _, _, h2⟩ := (hK.2 (qTys G).length (cB, .object C) (by simp)).2
  exact Option.some.inj (h2.symm.trans h1)
/-- a new row, behind the machine's own -/
theorem q_newarr {n : Int32} {r : List Value} {kd t0 : Nat} {ty : FieldType} {len q : Nat} {ev : va_E} {M' : qM} (hF : qFr G T d p R s m args meth c) {X : qX} (hX : ∀ pc ls st uc us M, X pc ls st uc us M → qS G T ad0 n0 p l e R s m args below meth c Qf pc ls st uc us M)
    (hph : (!(qPh T)) = true) (b1 : uc + 1 ≤ qMc T) (b2 : us + n.toNatClampNeg ≤ qMs T) (b3 : qRefs (M.1 + 2) r) (b4 : qRefs (M.1 + 2) (ls.map Prod.snd)) (h : X (pc + len) ls (.ref (M.1 + 2) :: r) (uc + 1) (us + n.toNatClampNeg) M')
    (h4 : n0 ≤ M.1) {ad : Nat → Nat} (h5 : ∀ k, k < n0 + 2 → ad k = ad0 k) {H H1 : Heap} {locs : List Loc} {lsA : Array Slot} (hl : lv_has lsA (qLo T) (qLs ad ls)) (hP : qRep G ad M H)
    (hM1 : M'.1 = M.1 + 1) (hM2 : M'.2.1 = qUp M.2.1 (M.1 + 2) n.toNatClampNeg) (hI : ∀ k, k ≠ M.1 + 2 → M'.2.2.1 k = M.2.2.1 k) (hL : ∀ k, k ≠ M.1 + 2 → M'.2.2.2.1 k = M.2.2.2.1 k) (hRr : M'.2.2.2.2 = M.2.2.2.2 ∨ M'.2.2.2.2 = qRow M.2.2.2.2 (M.1 + 2) (fun _ => none))
    (he : qF G (fun k => if k = M.1 + 2 then q else ad k) M' (M.1 + 2) = ev) (hP1 : va_P G.1 vwCl (qW ad M.1 (qF G ad M) ++ [(q, ev)]) H1) (hD1 : va_D (qAr G) (qW ad M.1 (qF G ad M) ++ [(q, ev)])) (hS1 : va_S (qAr G) s.heap H1 locs) :
    W p l e R s m args below meth c H1 locs (uc + 1) (us + n.toNatClampNeg) Qf (F0 m (pc + len) lsA (.ref q :: r.map (qV ad))) := by
  have hh := hX _ _ _ _ _ _ h b1 b2 (fun hq => by rw [hq] at hph; cases hph) (by rw [hM1]; omega) (fun k => if k = M.1 + 2 then q else ad k) (fun j hj => by show (if j = M.1 + 2 then q else ad j) = _; rw [if_neg (by omega)]; exact h5 j hj) (fun hz => by omega) H1 locs lsA (by rw [q_lss b4]; exact hl) (qRep_new hP hM1 (by rw [hM2]; exact qUp_ne (by omega)) (fun j hj => by rw [hM2]; exact qLen_ne hj) hI hL (fun j hj => by rcases hRr with z | z <;> rw [z]; exact qRow_ne hj) he (q_rbrow hP.2.2.2.2.2.2.2 hM1 hRr) hP1 hD1) hS1
  rw [List.map_cons, q_sts b3] at hh
  have e1 : qV (fun k => if k = M.1 + 2 then q else ad k) (.ref (M.1 + 2)) = .ref q := congrArg Value.ref (if_pos rfl)
  rw [e1] at hh
  exact hh
theorem qs_newarray {ty : ArrayType} {len : Nat} (hF : qFr G T d p R s m args meth c) {X : qX} (hX : ∀ pc ls st uc us M, X pc ls st uc us M → qS G T ad0 n0 p l e R s m args below meth c Qf pc ls st uc us M) (h : qIf (!(qPh T)) (qI1 st fun n r => qIs (M.1 + 2) (match ty with | .int => 14 | .byte => 13 | .long => 15 | .boolean => 16 | _ => 77)
      ((¬ n < 0 ∧ n.toNatClampNeg ≤ 100000 ∧ qLen (qUp M.2.1 (M.1 + 2) n.toNatClampNeg) (M.1 + 2) = n.toNatClampNeg ∧ uc + 1 ≤ qMc T ∧ us + n.toNatClampNeg ≤ qMs T ∧ qRefs (M.1 + 2) r ∧ qRefs (M.1 + 2) (ls.map Prod.snd)) ∧
        X (pc + len) ls (.ref (M.1 + 2) :: r) (uc + 1) (us + n.toNatClampNeg) (M.1 + 1, qUp M.2.1 (M.1 + 2) n.toNatClampNeg, qRow M.2.2.1 (M.1 + 2) (fun _ => 0), qRow M.2.2.2.1 (M.1 + 2) (fun _ => 0), M.2.2.2.2)))) (hk : qChk T (pc, .newarray ty, len) = true) : qS G T ad0 n0 p l e R s m args below meth c Qf pc ls st uc us M := by
  obtain ⟨hd, rfl, hex⟩ := q_dec1 2 hk rfl rfl
  obtain ⟨hph, hA⟩ := qIf_of h
  have hq := qI1_of hA
  clear hA
  obtain ⟨n, r, rfl, hB⟩ := hq
  obtain ⟨hkk, ⟨g1, g2, g3, b1, b2, b3, b4⟩, hX1⟩ := qIs_of hB
  intro h1 h2 h3 h4 ad h5 h6 H locs lsA hl hP hS
  have hts := hF.2.2.2.2.2.2.2.1
  have hR := hF.2.2.2.2.2.2.2.2.2.1
  have hs0 := hF.2.2.2.2.2.2.2.2.2.2
  have hK := hF.2.2.2.2.2.2.2.2.1.1
  cases ty with
  | int =>
    have hkk : qK (M.1 + 2) = 14 := hkk
    refine va_newa (D := G.1) (atype := .int) (ty := .int) (a0 := (n.toNatClampNeg, .inl (fun _ => 0))) hF.1 hF.2.1 (hts _ (q_one _ (by decide +kernel))) rfl hK hP.1 hP.2.1 hS (fun q hq => Nat.le_trans hs0 hq) (fun cA => rfl) g1 rfl (by show _ * 4 ≤ _; omega) (by omega) (by omega) hd fun q cB H1 hK1 hP1 hD1 hS1 => ?_
    have hcB := q_tyeq (t0 := 1) hK1 rfl (fun C h => by cases h)
    subst hcB
    refine q_newarr (kd := 14) (t0 := 1) (ty := .int) hF hX hph b1 b2 b3 b4 hX1 h4 h5 hl hP rfl rfl (fun j hj => qRow_ne hj) (fun j hj => qRow_ne hj) (Or.inl rfl) ?_ hP1 hD1 hS1
    rw [qF_int hkk (by decide)]
    dsimp only
    rw [qRow_at, g3]
  | byte =>
    have hkk : qK (M.1 + 2) = 13 := hkk
    refine va_newa (D := G.1) (atype := .byte) (ty := .byte) (a0 := (n.toNatClampNeg, .inl (fun _ => 0))) hF.1 hF.2.1 (hts _ (q_one _ (by decide +kernel))) rfl hK hP.1 hP.2.1 hS (fun q hq => Nat.le_trans hs0 hq) (fun cA => rfl) g1 rfl (by show _ * 1 ≤ _; omega) (by omega) (by omega) hd fun q cB H1 hK1 hP1 hD1 hS1 => ?_
    have hcB := q_tyeq (t0 := 0) hK1 rfl (fun C h => by cases h)
    subst hcB
    refine q_newarr (kd := 14) (t0 := 1) (ty := .int) hF hX hph b1 b2 b3 b4 hX1 h4 h5 hl hP rfl rfl (fun j hj => qRow_ne hj) (fun j hj => qRow_ne hj) (Or.inl rfl) ?_ hP1 hD1 hS1
    rw [qF_int hkk (by decide)]
    dsimp only
    rw [qRow_at, g3]
  | boolean =>
    have hkk : qK (M.1 + 2) = 16 := hkk
    refine va_newa (D := G.1) (atype := .boolean) (ty := .boolean) (a0 := (n.toNatClampNeg, .inl (fun _ => 0))) hF.1 hF.2.1 (hts _ (q_one _ (by decide +kernel))) rfl hK hP.1 hP.2.1 hS (fun q hq => Nat.le_trans hs0 hq) (fun cA => rfl) g1 rfl (by show _ * 1 ≤ _; omega) (by omega) (by omega) hd fun q cB H1 hK1 hP1 hD1 hS1 => ?_
    have hcB := q_tyeq (t0 := 3) hK1 rfl (fun C h => by cases h)
    subst hcB
    refine q_newarr (kd := 14) (t0 := 1) (ty := .int) hF hX hph b1 b2 b3 b4 hX1 h4 h5 hl hP rfl rfl (fun j hj => qRow_ne hj) (fun j hj => qRow_ne hj) (Or.inl rfl) ?_ hP1 hD1 hS1
    rw [qF_int hkk (by decide)]
    dsimp only
    rw [qRow_at, g3]
  | long =>
    have hkk : qK (M.1 + 2) = 15 := hkk
    refine va_newa (D := G.1) (atype := .long) (ty := .long) (a0 := (n.toNatClampNeg, .inr (.inl (fun _ => 0)))) hF.1 hF.2.1 (hts _ (q_one _ (by decide +kernel))) rfl hK hP.1 hP.2.1 hS (fun q hq => Nat.le_trans hs0 hq) (fun cA => rfl) g1 rfl (by show _ * 8 ≤ _; omega) (by omega) (by omega) hd fun q cB H1 hK1 hP1 hD1 hS1 => ?_
    have hcB := q_tyeq (t0 := 2) hK1 rfl (fun C h => by cases h)
    subst hcB
    refine q_newarr (kd := 14) (t0 := 1) (ty := .int) hF hX hph b1 b2 b3 b4 hX1 h4 h5 hl hP rfl rfl (fun j hj => qRow_ne hj) (fun j hj => qRow_ne hj) (Or.inl rfl) ?_ hP1 hD1 hS1
    rw [qF_long hkk]
    dsimp only
    rw [qRow_at, g3]
  | char =>
    have h2 : 2 ≤ M.1 + 2 := by omega
    have hz := q_kinds (a := M.1 + 2) (by rw [hkk]; decide) h2
    rw [hkk] at hz
    exact absurd hz (by decide)
  | float =>
    have h2 : 2 ≤ M.1 + 2 := by omega
    have hz := q_kinds (a := M.1 + 2) (by rw [hkk]; decide) h2
    rw [hkk] at hz
    exact absurd hz (by decide)
  | double =>
    have h2 : 2 ≤ M.1 + 2 := by omega
    have hz := q_kinds (a := M.1 + 2) (by rw [hkk]; decide) h2
    rw [hkk] at hz
    exact absurd hz (by decide)
  | short =>
    have h2 : 2 ≤ M.1 + 2 := by omega
    have hz := q_kinds (a := M.1 + 2) (by rw [hkk]; decide) h2
    rw [hkk] at hz
    exact absurd hz (by decide)
theorem qs_anewarray {k : Nat} {len : Nat} (hF : qFr G T d p R s m args meth c) {X : qX} (hX : ∀ pc ls st uc us M, X pc ls st uc us M → qS G T ad0 n0 p l e R s m args below meth c Qf pc ls st uc us M) (hk : qChk T (pc, .anewarray k, len) = true)
    (h : qIf (!(qPh T)) (qI1 st fun n r => qIs (M.1 + 2) 17
      ((¬ n < 0 ∧ n.toNatClampNeg ≤ 100000 ∧ qLen (qUp M.2.1 (M.1 + 2) n.toNatClampNeg) (M.1 + 2) = n.toNatClampNeg ∧ uc + 1 ≤ qMc T ∧ us + n.toNatClampNeg ≤ qMs T ∧ qRefs (M.1 + 2) r ∧ qRefs (M.1 + 2) (ls.map Prod.snd)) ∧
        X (pc + len) ls (.ref (M.1 + 2) :: r) (uc + 1) (us + n.toNatClampNeg) (M.1 + 1, qUp M.2.1 (M.1 + 2) n.toNatClampNeg, M.2.2.1, M.2.2.2.1, qRow M.2.2.2.2 (M.1 + 2) (fun _ => none))))) : qS G T ad0 n0 p l e R s m args below meth c Qf pc ls st uc us M := by
  have hk9 : k = 9 := by
    obtain ⟨raw, hr, -⟩ := q_dec hk
    have hr2 : (bif Nat.beq k 9 then (qIx qCL (qOc T) k).map Instr.anewarray else none) = some raw := hr
    cases hb : Nat.beq k 9 with
    | true => exact Nat.eq_of_beq_eq_true hb
    | false => rw [hb] at hr2; cases hr2
  subst hk9
  obtain ⟨x, hx, hd, rfl, hex⟩ := q_dec2 3 (o := qIx qCL (qOc T) 9) (f := .anewarray) hk rfl rfl
  obtain ⟨hph, hA⟩ := qIf_of h
  have hq := qI1_of hA
  clear hA
  obtain ⟨n, r, rfl, hB⟩ := hq
  obtain ⟨hkk, ⟨g1, g2, g3, b1, b2, b3, b4⟩, hX1⟩ := qIs_of hB
  intro h1 h2 h3 h4 ad h5 h6 H locs lsA hl hP hS
  have hts := hF.2.2.2.2.2.2.2.1
  have hR := hF.2.2.2.2.2.2.2.2.2.1
  have hs0 := hF.2.2.2.2.2.2.2.2.2.2
  have hOn := hF.2.2.2.2.2.2.2.2.1
  refine va_newq (D := G.1) (C := RX9) (own := qCn (qOc T)) hF.1 hF.2.1 hF.2.2.2.2.2.2.1 (hts _ (q_cl (qOc T, 9, x) (qIx_mem _ _ _ _ hx))) hOn.2.2.2.2.2.2 hOn.1 hP.1 hP.2.1 hS (fun q hq => Nat.le_trans hs0 hq) g1 rfl (by omega) (by omega) (by omega) hd fun q cB H1 hK1 hP1 hD1 hS1 => ?_
  have hcB := q_tyeqO (t0 := 4) hK1 rfl
  subst hcB
  refine q_newarr (kd := 14) (t0 := 1) (ty := .int) hF hX hph b1 b2 b3 b4 hX1 h4 h5 hl hP rfl rfl (fun _ _ => rfl) (fun _ _ => rfl) (Or.inr rfl) ?_ hP1 hD1 hS1
  rw [qF_ref hkk]
  dsimp only
  rw [qRow_at, g3]
  rfl
/-! switches -/
theorem qTabs_get {x : Int32} {Y : Nat → Prop} : ∀ (ts : List Int) (lo : Int), qTabs x Y lo ts → ∀ (t : Int) (j : Nat), ts[j]? = some t → x.toInt = lo + j → Y t.toNat := by
  intro ts
  induction ts with
  | nil => intro lo _ t j h; simp at h
  | cons u r ih =>
    intro lo h t j hj hx
    obtain ⟨ha, hb⟩ := h
    cases j with
    | zero =>
      simp at hj
      subst hj
      exact ha (by simpa using hx)
    | succ j =>
      simp at hj
      exact ih (lo + 1) hb t j hj (by push_cast at hx; omega)
theorem qs_table {dd lo hi : Int} {ts : Array Int} {len : Nat} (hF : qFr G T d p R s m args meth c) {X : qX} (hX : ∀ pc ls st uc us M, X pc ls st uc us M → qS G T ad0 n0 p l e R s m args below meth c Qf pc ls st uc us M) (hk : qChk T (pc, .tableswitch dd lo hi ts, len) = true)
    (h : qI1 st fun x r => (x.toInt < lo ∨ hi < x.toInt → X dd.toNat ls r uc us M) ∧ qTabs x (fun t => X t ls r uc us M) lo ts.toList) : qS G T ad0 n0 p l e R s m args below meth c Qf pc ls st uc us M := by
  obtain ⟨raw, hr, hd, -, hex⟩ := q_dec hk
  have hraw : raw = .tableswitch (dd - pc) lo hi (ts.map (fun t => t - pc)) := (Option.some.inj hr).symm
  subst hraw
  have hq := qI1_of h
  clear h
  obtain ⟨x, r, rfl, ha, hb⟩ := hq
  intro h1 h2 h3 h4 ad h5 h6 H locs lsA hl hP hS
  have hex : (decide (0 ≤ dd) && (ts.toList.all (fun t => decide (0 ≤ t)) && decide (hi = lo + ts.toList.length - 1))) = true := hex
  simp only [Bool.and_eq_true] at hex
  have hhi := of_decide_eq_true hex.2.2
  by_cases hout : x.toInt < lo ∨ hi < x.toInt
  · exact lv_tableOut hF.1 hF.2.1 hd hout (q_tgt hex.1) (hX _ _ _ _ _ _ (ha hout) h1 h2 h3 h4 ad h5 h6 H locs lsA hl hP hS)
  · have hj : (x.toInt - lo).toNat < ts.toList.length := by omega
    have hget : ts.toList[(x.toInt - lo).toNat]? = some (ts.toList[(x.toInt - lo).toNat]) := List.getElem?_eq_getElem hj
    have ht := qTabs_get _ _ hb _ _ hget (by omega)
    have hnn := List.all_eq_true.mp hex.2.1 _ (List.getElem_mem hj)
    refine lv_tableIn (off := ts.toList[(x.toInt - lo).toNat] - pc) hF.1 hF.2.1 hd (fun q => hout (Or.inl q)) (fun q => hout (Or.inr q)) ?_ (q_tgt hnn) (hX _ _ _ _ _ _ ht h1 h2 h3 h4 ad h5 h6 H locs lsA hl hP hS)
    rw [← Array.getElem?_toList, Array.toList_map, List.getElem?_map, hget]
    rfl
theorem qLks_get {x : Int32} {Y : Nat → Prop} {dd : Int} {pc : Nat} : ∀ (ps : List (Int × Int)), qLks x Y dd ps → 0 ≤ dd → (∀ q ∈ ps, 0 ≤ q.2) → ∃ t : Int, 0 ≤ t ∧ Y t.toNat ∧ Op.lookupswitch.offset (ps.map (fun q => (q.1, q.2 - (pc : Int)))) (dd - pc) x.toInt = t - pc := by
  intro ps
  induction ps with
  | nil => intro h h0 _; exact ⟨dd, h0, h, rfl⟩
  | cons q r ih =>
    intro h h0 hq
    obtain ⟨k, t⟩ := q
    obtain ⟨ha, hb⟩ := h
    rw [List.map_cons, Op.lookupswitch.offset_cons]
    by_cases hx : x.toInt = k
    · refine ⟨t, hq _ List.mem_cons_self, ha hx, ?_⟩
      first | rw [if_pos hx] | rw [if_pos hx.symm]
    · obtain ⟨t', g1, g2, g3⟩ := ih (hb hx) h0 (fun z hz => hq z (List.mem_cons_of_mem _ hz))
      refine ⟨t', g1, g2, ?_⟩
      first | rw [if_neg hx] | rw [if_neg (fun z => hx z.symm)]
      exact g3
theorem qs_lookup {dd : Int} {ps : Array (Int × Int)} {len : Nat} (hF : qFr G T d p R s m args meth c) {X : qX} (hX : ∀ pc ls st uc us M, X pc ls st uc us M → qS G T ad0 n0 p l e R s m args below meth c Qf pc ls st uc us M) (hk : qChk T (pc, .lookupswitch dd ps, len) = true)
    (h : qI1 st fun x r => qLks x (fun t => X t ls r uc us M) dd ps.toList) : qS G T ad0 n0 p l e R s m args below meth c Qf pc ls st uc us M := by
  obtain ⟨raw, hr, hd, -, hex⟩ := q_dec hk
  have hraw : raw = .lookupswitch (dd - pc) (ps.map (fun q => (q.1, q.2 - pc))) := (Option.some.inj hr).symm
  subst hraw
  have hq := qI1_of h
  clear h
  obtain ⟨x, r, rfl, h⟩ := hq
  intro h1 h2 h3 h4 ad h5 h6 H locs lsA hl hP hS
  have hex : (decide (0 ≤ dd) && (ps.toList.all (fun q => decide (0 ≤ q.2)) && (ps.toList.zip (ps.toList.drop 1)).all (fun (a, next) => a.1 < next.1))) = true := hex
  simp only [Bool.and_eq_true] at hex
  obtain ⟨t, g1, g2, g3⟩ := qLks_get (pc := pc) _ h (of_decide_eq_true hex.1) (fun q hq => of_decide_eq_true (List.all_eq_true.mp hex.2.1 q hq))
  refine lv_lookup (off := t - pc) (tgt := t.toNat) hF.1 hF.2.1 hd ?_ (by rw [Array.toList_map]; exact g3) (q_tgt (decide_eq_true g1)) (hX _ _ _ _ _ _ g2 h1 h2 h3 h4 ad h5 h6 H locs lsA hl hP hS)
  rw [Array.toList_map, ← List.map_drop, List.zip_map, List.all_map]
  exact hex.2.2
end QNEW
