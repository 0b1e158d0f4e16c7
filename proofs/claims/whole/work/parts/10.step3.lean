section QARR
variable {G : qCx} {T : qT} {ad0 : Nat → Nat} {n0 d : Nat} {p : Program} {l : Launch} {e : Env} {R : Room} {s : State} {m : MethodId} {args : Array Value} {below : List Frame} {meth : Method} {c : Code} {Qf : State → Prop}
variable {pc : Nat} {ls : List (Nat × Value)} {st : List Value} {uc us : Nat} {M : qM} {Q : qP}
theorem q_ty {G : qCx} (i : Nat) {q : ClassId × FieldType} (h : (qTys G)[i]? = some q) : (qTys G)[i]? = some q := h

theorem q_lt2 {a : Nat} (h : a < 2) : a = 0 ∨ a = 1 := by omega
theorem q_nlt2 {a : Nat} (h : Nat.blt a 2 = false) : 2 ≤ a := by
  rcases Nat.lt_or_ge a 2 with h1 | h1
  · rw [q_blt.mpr h1] at h; cases h
  · exact h1
theorem q_kinds {a : Nat} (h : 13 ≤ qK a) (h2 : 2 ≤ a) : qK a = 13 ∨ qK a = 14 ∨ qK a = 15 ∨ qK a = 16 ∨ qK a = 17 := by
  by_cases hb : qBase ≤ a
  · unfold qK at h ⊢
    rw [show Nat.ble qBase a = true from Nat.ble_eq.mpr hb] at h ⊢
    simp only [cond_true] at h ⊢
    cases hq : Nat.beq ((a - qBase) % 2) 0 with
    | true => rw [hq] at h; simp at h
    | false => simp
  · have hk : ∀ a, a < qBase → 2 ≤ a → 13 ≤ qK a → (qK a = 13 ∨ qK a = 14 ∨ qK a = 15 ∨ qK a = 16 ∨ qK a = 17) := by decide +kernel
    exact hk a (by omega) h2 h
theorem q_aload_I {kd t0 : Nat} {ty : FieldType} {a : Nat} {i : Int32} {ad : Nat → Nat} {H : Heap} (hP : qRep G ad M H) (hka : qK a = kd) (hkd : kd = 13 ∨ kd = 14 ∨ kd = 16) (hlt : a < M.1 + 2) : (qW ad M.1 (qF G ad M))[a - 2]? = some (ad a, .inl (G.2.1 kd, (qLen M.2.1 a, .inl (M.2.2.1 a)))) := by
  have he := qW_get (ad := ad) (F := qF G ad M) (qK_lo hka (by rcases hkd with rfl | rfl | rfl <;> decide)) hlt
  rw [qF_int hka hkd] at he
  exact he
theorem qs_iaload  {len : Nat} (hF : qFr G T d p R s m args meth c) {X : qX} (hX : ∀ pc ls st uc us M, X pc ls st uc us M → qS G T ad0 n0 p l e R s m args below meth c Qf pc ls st uc us M) (hk : qChk T (pc, .iaload, len) = true) (h : qAI st fun a i r => match Nat.blt a 2 with | true => vp_in i (qLen M.2.1 a) ∧ X (pc + len) ls (.int (M.2.2.1 a i.toNatClampNeg) :: r) uc us M | false => qIs a 14 (qIn (qPh T) a M (vp_in i (qLen M.2.1 a) ∧ X (pc + len) ls (.int (M.2.2.1 a i.toNatClampNeg) :: r) uc us M))) : qS G T ad0 n0 p l e R s m args below meth c Qf pc ls st uc us M := by
  obtain ⟨hd, rfl, -⟩ := q_dec1 1 hk rfl rfl
  have hq := qAI_of h
  clear h
  obtain ⟨a, i, r, rfl, h⟩ := hq
  split at h
  · rename_i ha
    have ha2 : a < 2 := q_blt.mp ha
    obtain ⟨hin, h⟩ := h
    intro h1 h2 h3 h4 ad h5 h6 H locs lsA hl hP hS
    have hOn := hF.2.2.2.2.2.2.2.2.1
    have hh := hX _ _ _ _ _ _ h h1 h2 h3 h4 ad h5 h6 H locs lsA hl hP hS
    rcases q_lt2 ha2 with rfl | rfl
    · have e1 : qLen M.2.1 0 = G.2.2.2.2.2.1 := hP.2.2.2.2.1
      rw [e1] at hin
      show W p l e R s m args below meth c H locs uc us Qf (F0 m pc lsA (.int i :: .ref (ad 0) :: r.map (qV ad)))
      rw [hP.2.2.1]
      exact va_ti hF.1 hF.2.1 hOn.2.1 hS hin (v := .int (M.2.2.1 0 i.toNatClampNeg)) (by rw [hP.2.2.2.2.2.1]) hd hh
    · have e1 : qLen M.2.1 1 = 6 := rfl
      rw [e1] at hin
      show W p l e R s m args below meth c H locs uc us Qf (F0 m pc lsA (.int i :: .ref (ad 1) :: r.map (qV ad)))
      rw [hP.2.2.2.1]
      exact va_ti hF.1 hF.2.1 hOn.2.2.1 hS hin (v := .int (M.2.2.1 1 i.toNatClampNeg)) (by rw [hP.2.2.2.2.2.2.1]) hd hh
  · obtain ⟨hka, h⟩ := qIs_of h
    intro h1 h2 h3 h4 ad h5 h6 H locs lsA hl hP hS
    obtain ⟨hlt, hin, h⟩ := qIn_of h3 h
    exact va_iald (D := G.1) hF.1 hF.2.1 hF.2.2.2.2.2.2.2.2.1.1 hP.1 (a - 2) 1 (q_aload_I (t0 := 0) (ty := .int) (i := i) hP hka (by decide) hlt) rfl hin hd (hX _ _ _ _ _ _ h h1 h2 h3 h4 ad h5 h6 H locs lsA hl hP hS)
theorem qs_baload  {len : Nat} (hF : qFr G T d p R s m args meth c) {X : qX} (hX : ∀ pc ls st uc us M, X pc ls st uc us M → qS G T ad0 n0 p l e R s m args below meth c Qf pc ls st uc us M) (hk : qChk T (pc, .baload, len) = true) (h : qAI st fun a i r => match Nat.beq (qK a) 16 with | true => qIn (qPh T) a M (vp_in i (qLen M.2.1 a) ∧ X (pc + len) ls (.int (M.2.2.1 a i.toNatClampNeg) :: r) uc us M) | false => qIs a 13 (qIn (qPh T) a M (vp_in i (qLen M.2.1 a) ∧ X (pc + len) ls (.int (M.2.2.1 a i.toNatClampNeg) :: r) uc us M))) : qS G T ad0 n0 p l e R s m args below meth c Qf pc ls st uc us M := by
  obtain ⟨hd, rfl, -⟩ := q_dec1 1 hk rfl rfl
  have hq := qAI_of h
  clear h
  obtain ⟨a, i, r, rfl, h⟩ := hq
  split at h
  · rename_i ha
    have hka := Nat.eq_of_beq_eq_true ha
    intro h1 h2 h3 h4 ad h5 h6 H locs lsA hl hP hS
    obtain ⟨hlt, hin, h⟩ := qIn_of h3 h
    exact va_zald (D := G.1) hF.1 hF.2.1 hF.2.2.2.2.2.2.2.2.1.1 hP.1 (a - 2) 3 (q_aload_I (t0 := 0) (ty := .int) (i := i) hP hka (by decide) hlt) rfl hin hd (hX _ _ _ _ _ _ h h1 h2 h3 h4 ad h5 h6 H locs lsA hl hP hS)
  · obtain ⟨hka, h⟩ := qIs_of h
    intro h1 h2 h3 h4 ad h5 h6 H locs lsA hl hP hS
    obtain ⟨hlt, hin, h⟩ := qIn_of h3 h
    exact va_bald (D := G.1) hF.1 hF.2.1 hF.2.2.2.2.2.2.2.2.1.1 hP.1 (a - 2) 0 (q_aload_I (t0 := 0) (ty := .int) (i := i) hP hka (by decide) hlt) rfl hin hd (hX _ _ _ _ _ _ h h1 h2 h3 h4 ad h5 h6 H locs lsA hl hP hS)
theorem qs_laload  {len : Nat} (hF : qFr G T d p R s m args meth c) {X : qX} (hX : ∀ pc ls st uc us M, X pc ls st uc us M → qS G T ad0 n0 p l e R s m args below meth c Qf pc ls st uc us M) (hk : qChk T (pc, .laload, len) = true) (h : qAI st fun a i r => qIs a 15 (qIn (qPh T) a M (vp_in i (qLen M.2.1 a) ∧ X (pc + len) ls (.long (M.2.2.2.1 a i.toNatClampNeg) :: r) uc us M))) : qS G T ad0 n0 p l e R s m args below meth c Qf pc ls st uc us M := by
  obtain ⟨hd, rfl, -⟩ := q_dec1 1 hk rfl rfl
  have hq := qAI_of h
  clear h
  obtain ⟨a, i, r, rfl, h⟩ := hq
  obtain ⟨hka, h⟩ := qIs_of h
  intro h1 h2 h3 h4 ad h5 h6 H locs lsA hl hP hS
  obtain ⟨hlt, hin, h⟩ := qIn_of h3 h
  have he := qW_get (ad := ad) (F := qF G ad M) (qK_lo hka (by decide)) hlt
  rw [qF_long hka] at he
  exact va_lald (D := G.1) hF.1 hF.2.1 hF.2.2.2.2.2.2.2.2.1.1 hP.1 (a - 2) 2 he rfl hin hd (hX _ _ _ _ _ _ h h1 h2 h3 h4 ad h5 h6 H locs lsA hl hP hS)
theorem qs_aaload  {len : Nat} (hF : qFr G T d p R s m args meth c) {X : qX} (hX : ∀ pc ls st uc us M, X pc ls st uc us M → qS G T ad0 n0 p l e R s m args below meth c Qf pc ls st uc us M) (hk : qChk T (pc, .aaload, len) = true) (h : qAI st fun a i r => qIs a 17 (qIn (qPh T) a M (vp_in i (qLen M.2.1 a) ∧ ∃ v : Option Nat, M.2.2.2.2 a i.toNatClampNeg = v ∧ X (pc + len) ls (va_rf v :: r) uc us M))) : qS G T ad0 n0 p l e R s m args below meth c Qf pc ls st uc us M := by
  obtain ⟨hd, rfl, -⟩ := q_dec1 1 hk rfl rfl
  have hq := qAI_of h
  clear h
  obtain ⟨a, i, r, rfl, h⟩ := hq
  obtain ⟨hka, h⟩ := qIs_of h
  intro h1 h2 h3 h4 ad h5 h6 H locs lsA hl hP hS
  obtain ⟨hlt, hin, v, hv, h⟩ := qIn_of h3 h
  have he := qW_get (ad := ad) (F := qF G ad M) (qK_lo hka (by decide)) hlt
  rw [qF_ref hka] at he
  have hh := hX _ _ _ _ _ _ h h1 h2 h3 h4 ad h5 h6 H locs lsA hl hP hS
  rw [List.map_cons, qV_rf, ← hv] at hh
  exact va_aldq (D := G.1) hF.1 hF.2.1 hF.2.2.2.2.2.2.2.2.1.1 hP.1 (a - 2) 4 he rfl hin hd hh
theorem qs_alen  {len : Nat} (hF : qFr G T d p R s m args meth c) {X : qX} (hX : ∀ pc ls st uc us M, X pc ls st uc us M → qS G T ad0 n0 p l e R s m args below meth c Qf pc ls st uc us M) (hk : qChk T (pc, .arraylength, len) = true) (h : qA1 st fun a r => match Nat.blt a 2 with | true => X (pc + len) ls (.int (Int32.ofNat (qLen M.2.1 a)) :: r) uc us M | false => qIf (Nat.ble 13 (qK a)) (qIn (qPh T) a M (X (pc + len) ls (.int (Int32.ofNat (qLen M.2.1 a)) :: r) uc us M))) : qS G T ad0 n0 p l e R s m args below meth c Qf pc ls st uc us M := by
  obtain ⟨hd, rfl, -⟩ := q_dec1 1 hk rfl rfl
  have hq := qA1_of h
  clear h
  obtain ⟨a, r, rfl, h⟩ := hq
  split at h
  · rename_i ha
    have ha2 : a < 2 := q_blt.mp ha
    intro h1 h2 h3 h4 ad h5 h6 H locs lsA hl hP hS
    have hh := hX _ _ _ _ _ _ h h1 h2 h3 h4 ad h5 h6 H locs lsA hl hP hS
    have hOn := hF.2.2.2.2.2.2.2.2.1
    have key : ∀ (t N : Nat) (f : Nat → Value), va_T .int t N f (qAr G) s s.heap → ad a = t → qLen M.2.1 a = N → W p l e R s m args below meth c H locs uc us Qf (F0 m pc lsA ((Value.ref a :: r).map (qV ad))) := by
      intro t N f hTT e1 e2
      obtain ⟨cell, g1, g2, g3, g4, g5, g6, g7⟩ := hTT
      show W p l e R s m args below meth c H locs uc us Qf (F0 m pc lsA (.ref (ad a) :: r.map (qV ad)))
      rw [e1]
      exact W.alen (n := Int32.ofNat (qLen M.2.1 a)) hF.1 hF.2.1 (by rw [hS.2.1 t (Array.getElem?_eq_some_iff.mp g1).1 g7]; exact g1) g2 (by rw [g5, e2]) rfl rfl hd hh
    rcases q_lt2 ha2 with rfl | rfl
    · exact key _ _ _ hOn.2.1 hP.2.2.1 hP.2.2.2.2.1
    · exact key _ _ _ hOn.2.2.1 hP.2.2.2.1 rfl
  · rename_i ha
    obtain ⟨hb, h⟩ := qIf_of h
    intro h1 h2 h3 h4 ad h5 h6 H locs lsA hl hP hS
    obtain ⟨hlt, h⟩ := qIn_of h3 h
    have ha2 : 2 ≤ a := q_nlt2 ha
    have he := qW_get (ad := ad) (F := qF G ad M) ha2 hlt
    have hb13 : 13 ≤ qK a := by simpa [Nat.ble_eq] using hb
    have hK9 : qK a = 13 ∨ qK a = 14 ∨ qK a = 15 ∨ qK a = 16 ∨ qK a = 17 := q_kinds hb13 ha2
    have hh := hX _ _ _ _ _ _ h h1 h2 h3 h4 ad h5 h6 H locs lsA hl hP hS
    rcases hK9 with hka | hka | hka | hka | hka
    · rw [qF_int hka (by decide)] at he
      exact va_alen (D := G.1) hF.1 hF.2.1 hF.2.2.2.2.2.2.2.2.1.1 hP.1 (a - 2) 0 he rfl rfl hd hh
    · rw [qF_int hka (by decide)] at he
      exact va_alen (D := G.1) hF.1 hF.2.1 hF.2.2.2.2.2.2.2.2.1.1 hP.1 (a - 2) 1 he rfl rfl hd hh
    · rw [qF_long hka] at he
      exact va_alen (D := G.1) hF.1 hF.2.1 hF.2.2.2.2.2.2.2.2.1.1 hP.1 (a - 2) 2 he rfl rfl hd hh
    · rw [qF_int hka (by decide)] at he
      exact va_alen (D := G.1) hF.1 hF.2.1 hF.2.2.2.2.2.2.2.2.1.1 hP.1 (a - 2) 3 he rfl rfl hd hh
    · rw [qF_ref hka] at he
      exact va_alen (D := G.1) hF.1 hF.2.1 hF.2.2.2.2.2.2.2.2.1.1 hP.1 (a - 2) 4 he rfl rfl hd hh
theorem q_upd {f : Nat → Nat → Int32} {a j : Nat} {v : Int32} : q2 f a j v a = upd (f a) j v := by
  funext i
  simp only [q2, upd, if_true]
theorem q_updL {f : Nat → Nat → Int64} {a j : Nat} {v : Int64} : q2 f a j v a = vp_updL (f a) j v := by
  funext i
  simp only [q2, vp_updL, if_true]
theorem q_updR {f : Nat → Nat → Option Nat} {ad : Nat → Nat} {a j : Nat} {v : Option Nat} : (fun i => (q2 f a j v a i).map ad) = va_up (fun i => (f a i).map ad) j (v.map ad) := by
  funext i
  simp only [q2, va_up, if_true]
  split <;> rfl
theorem qs_iastore  {len : Nat} (hF : qFr G T d p R s m args meth c) {X : qX} (hX : ∀ pc ls st uc us M, X pc ls st uc us M → qS G T ad0 n0 p l e R s m args below meth c Qf pc ls st uc us M) (hk : qChk T (pc, .iastore, len) = true) (h : qAII st fun a i x r => qIs a 14 (qIn (qPh T) a M (vp_in i (qLen M.2.1 a) ∧ X (pc + len) ls r uc us (M.1, M.2.1, q2 M.2.2.1 a i.toNatClampNeg x, M.2.2.2.1, M.2.2.2.2)))) : qS G T ad0 n0 p l e R s m args below meth c Qf pc ls st uc us M := by
  obtain ⟨hd, rfl, -⟩ := q_dec1 1 hk rfl rfl
  have hq := qAII_of h
  clear h
  obtain ⟨a, i, x, r, rfl, h⟩ := hq
  obtain ⟨hka, h⟩ := qIs_of h
  intro h1 h2 h3 h4 ad h5 h6 H locs lsA hl hP hS
  obtain ⟨hlt, hin, h⟩ := qIn_of h3 h
  refine va_iast (D := G.1) hF.1 hF.2.1 hF.2.2.2.2.2.2.2.2.1.1 hP.1 hP.2.1 hS (a - 2) 1 (q_aload_I (t0 := 0) (ty := .int) (i := i) hP hka (by decide) hlt) rfl hin hd fun H1 locs1 hP1 hD1 hS1 => ?_
  refine hX _ _ _ _ _ _ h h1 h2 h3 h4 ad h5 h6 H1 locs1 lsA hl (qRep_set hP (qK_lo hka (by decide)) hlt rfl rfl (fun j hj => q2_ne hj) (fun _ _ => rfl) (fun _ _ => rfl) ?_ hP.2.2.2.2.2.2.2 hP1 hD1) hS1
  rw [qF_int hka (by decide)]
  dsimp only
  rw [q_upd]
theorem qs_bastore  {len : Nat} (hF : qFr G T d p R s m args meth c) {X : qX} (hX : ∀ pc ls st uc us M, X pc ls st uc us M → qS G T ad0 n0 p l e R s m args below meth c Qf pc ls st uc us M) (hk : qChk T (pc, .bastore, len) = true) (h : qAII st fun a i x r => match Nat.beq (qK a) 16 with | true => qIn (qPh T) a M (vp_in i (qLen M.2.1 a) ∧ X (pc + len) ls r uc us (M.1, M.2.1, q2 M.2.2.1 a i.toNatClampNeg (vp_nar .boolean x), M.2.2.2.1, M.2.2.2.2)) | false => qIs a 13 (qIn (qPh T) a M (vp_in i (qLen M.2.1 a) ∧ X (pc + len) ls r uc us (M.1, M.2.1, q2 M.2.2.1 a i.toNatClampNeg (vp_nar .byte x), M.2.2.2.1, M.2.2.2.2)))) : qS G T ad0 n0 p l e R s m args below meth c Qf pc ls st uc us M := by
  obtain ⟨hd, rfl, -⟩ := q_dec1 1 hk rfl rfl
  have hq := qAII_of h
  clear h
  obtain ⟨a, i, x, r, rfl, h⟩ := hq
  split at h
  · rename_i ha
    have hka := Nat.eq_of_beq_eq_true ha
    intro h1 h2 h3 h4 ad h5 h6 H locs lsA hl hP hS
    obtain ⟨hlt, hin, h⟩ := qIn_of h3 h
    refine va_zast (D := G.1) hF.1 hF.2.1 hF.2.2.2.2.2.2.2.2.1.1 hP.1 hP.2.1 hS (a - 2) 3 (q_aload_I (t0 := 0) (ty := .int) (i := i) hP hka (by decide) hlt) rfl hin hd fun H1 locs1 hP1 hD1 hS1 => ?_
    refine hX _ _ _ _ _ _ h h1 h2 h3 h4 ad h5 h6 H1 locs1 lsA hl (qRep_set hP (qK_lo hka (by decide)) hlt rfl rfl (fun j hj => q2_ne hj) (fun _ _ => rfl) (fun _ _ => rfl) ?_ hP.2.2.2.2.2.2.2 hP1 hD1) hS1
    rw [qF_int hka (by decide)]
    dsimp only
    rw [q_upd]
  · obtain ⟨hka, h⟩ := qIs_of h
    intro h1 h2 h3 h4 ad h5 h6 H locs lsA hl hP hS
    obtain ⟨hlt, hin, h⟩ := qIn_of h3 h
    refine va_bast (D := G.1) hF.1 hF.2.1 hF.2.2.2.2.2.2.2.2.1.1 hP.1 hP.2.1 hS (a - 2) 0 (q_aload_I (t0 := 0) (ty := .int) (i := i) hP hka (by decide) hlt) rfl hin hd fun H1 locs1 hP1 hD1 hS1 => ?_
    refine hX _ _ _ _ _ _ h h1 h2 h3 h4 ad h5 h6 H1 locs1 lsA hl (qRep_set hP (qK_lo hka (by decide)) hlt rfl rfl (fun j hj => q2_ne hj) (fun _ _ => rfl) (fun _ _ => rfl) ?_ hP.2.2.2.2.2.2.2 hP1 hD1) hS1
    rw [qF_int hka (by decide)]
    dsimp only
    rw [q_upd]
theorem qs_lastore  {len : Nat} (hF : qFr G T d p R s m args meth c) {X : qX} (hX : ∀ pc ls st uc us M, X pc ls st uc us M → qS G T ad0 n0 p l e R s m args below meth c Qf pc ls st uc us M) (hk : qChk T (pc, .lastore, len) = true) (h : qAIL st fun a i x r => qIs a 15 (qIn (qPh T) a M (vp_in i (qLen M.2.1 a) ∧ X (pc + len) ls r uc us (M.1, M.2.1, M.2.2.1, q2 M.2.2.2.1 a i.toNatClampNeg x, M.2.2.2.2)))) : qS G T ad0 n0 p l e R s m args below meth c Qf pc ls st uc us M := by
  obtain ⟨hd, rfl, -⟩ := q_dec1 1 hk rfl rfl
  have hq := qAIL_of h
  clear h
  obtain ⟨a, i, x, r, rfl, h⟩ := hq
  obtain ⟨hka, h⟩ := qIs_of h
  intro h1 h2 h3 h4 ad h5 h6 H locs lsA hl hP hS
  obtain ⟨hlt, hin, h⟩ := qIn_of h3 h
  have he := qW_get (ad := ad) (F := qF G ad M) (qK_lo hka (by decide)) hlt
  rw [qF_long hka] at he
  refine va_last (D := G.1) hF.1 hF.2.1 hF.2.2.2.2.2.2.2.2.1.1 hP.1 hP.2.1 hS (a - 2) 2 he rfl hin hd fun H1 locs1 hP1 hD1 hS1 => ?_
  refine hX _ _ _ _ _ _ h h1 h2 h3 h4 ad h5 h6 H1 locs1 lsA hl (qRep_set hP (qK_lo hka (by decide)) hlt rfl rfl (fun _ _ => rfl) (fun j hj => q2_ne hj) (fun _ _ => rfl) ?_ hP.2.2.2.2.2.2.2 hP1 hD1) hS1
  rw [qF_long hka]
  dsimp only
  rw [q_updL]
theorem qs_aastore  {len : Nat} (hF : qFr G T d p R s m args meth c) {X : qX} (hX : ∀ pc ls st uc us M, X pc ls st uc us M → qS G T ad0 n0 p l e R s m args below meth c Qf pc ls st uc us M) (hk : qChk T (pc, .aastore, len) = true) (h : qAIA st fun a i v r => qIs a 17 (qIn (qPh T) a M (vp_in i (qLen M.2.1 a) ∧ (∀ b, v = some b → qK b = 9 ∧ 2 ≤ b ∧ b < M.1 + 2) ∧ X (pc + len) ls r uc us (M.1, M.2.1, M.2.2.1, M.2.2.2.1, q2 M.2.2.2.2 a i.toNatClampNeg v)))) : qS G T ad0 n0 p l e R s m args below meth c Qf pc ls st uc us M := by
  obtain ⟨hd, rfl, -⟩ := q_dec1 1 hk rfl rfl
  have hq := qAIA_of h
  clear h
  obtain ⟨a, i, v, r, rfl, h⟩ := hq
  obtain ⟨hka, h⟩ := qIs_of h
  intro h1 h2 h3 h4 ad h5 h6 H locs lsA hl hP hS
  obtain ⟨hlt, hin, hv, h⟩ := qIn_of h3 h
  have he := qW_get (ad := ad) (F := qF G ad M) (qK_lo hka (by decide)) hlt
  rw [qF_ref hka] at he
  have hg : ∀ j, qG a j = none := by
    intro j
    unfold qG
    rw [hka]
    rfl
  have hrb : qRb (M.1, M.2.1, M.2.2.1, M.2.2.2.1, q2 M.2.2.2.2 a i.toNatClampNeg v) := q_rb2 hP.2.2.2.2.2.2.2 (by cases v with | none => exact trivial | some b => exact (hv b rfl).2.2)
  have kk : ∀ (H1 : Heap) (locs1 : List Loc), va_P G.1 vwCl ((qW ad M.1 (qF G ad M)).set (a - 2) (ad a, .inl (G.2.1 17, (qLen M.2.1 a, .inr (.inr (.inr (.inr (va_up (fun j => (M.2.2.2.2 a j).map ad) i.toNatClampNeg (v.map ad))))))))) H1 → va_D (qAr G) ((qW ad M.1 (qF G ad M)).set (a - 2) (ad a, .inl (G.2.1 17, (qLen M.2.1 a, .inr (.inr (.inr (.inr (va_up (fun j => (M.2.2.2.2 a j).map ad) i.toNatClampNeg (v.map ad))))))))) → va_S (qAr G) s.heap H1 locs1 → W p l e R s m args below meth c H1 locs1 uc us Qf (F0 m (pc + 1) lsA (r.map (qV ad))) := by
    intro H1 locs1 hP1 hD1 hS1
    refine hX _ _ _ _ _ _ h h1 h2 (fun hph => q_stat2 (h3 hph) (hg _)) h4 ad h5 h6 H1 locs1 lsA hl (qRep_set hP (qK_lo hka (by decide)) hlt rfl rfl (fun _ _ => rfl) (fun _ _ => rfl) (fun j hj => q2_ne hj) ?_ hrb hP1 hD1) hS1
    rw [qF_ref hka]
    dsimp only
    rw [q_updR]
  cases v with
  | none =>
    exact va_astqN (D := G.1) hF.1 hF.2.1 hF.2.2.2.2.2.2.2.2.1.1 hP.1 hP.2.1 hS (a - 2) 4 he rfl hin hd kk
  | some b =>
    obtain ⟨v1, v2, v3⟩ := hv b rfl
    have hb := qW_get (ad := ad) (F := qF G ad M) v2 v3
    rw [qF_obj v1 (by decide)] at hb
    exact va_astq (D := G.1) (r := qCls 9) (ci := 9) hF.1 hF.2.1 hF.2.2.2.2.2.2.2.2.1.1 hP.1 hP.2.1 hS (a - 2) 4 (b - 2) he rfl hb q_cls9.1 hin hd kk
theorem qs_copy  {len : Nat} (hF : qFr G T d p R s m args meth c) {X : qX} (hX : ∀ pc ls st uc us M, X pc ls st uc us M → qS G T ad0 n0 p l e R s m args below meth c Qf pc ls st uc us M) (hk : qChk T (pc, .invokestatic 9998, len) = true) (h : qCp st fun s2 sp d2 dp n r => qIs s2 15 (qIs d2 15 (qIn (qPh T) s2 M (qIn (qPh T) d2 M (qIf (Nat.ble (qCat r) 4) ((¬ sp < 0 ∧ ¬ dp < 0 ∧ ¬ n < 0 ∧ sp.toNatClampNeg + n.toNatClampNeg ≤ qLen M.2.1 s2 ∧ dp.toNatClampNeg + n.toNatClampNeg ≤ qLen M.2.1 d2) ∧ X (pc + len) ls r uc us (M.1, M.2.1, M.2.2.1, qRow M.2.2.2.1 d2 (va_cpy (M.2.2.2.1 s2) (M.2.2.2.1 d2) sp.toNatClampNeg dp.toNatClampNeg n.toNatClampNeg), M.2.2.2.2))))))) : qS G T ad0 n0 p l e R s m args below meth c Qf pc ls st uc us M := by
  obtain ⟨x, hx, hd, rfl, -⟩ := q_dec2 3 hk rfl rfl
  have hq := qCp_of h
  clear h
  obtain ⟨s2, sp, d2, dp, n, r, rfl, h⟩ := hq
  obtain ⟨hks, h⟩ := qIs_of h
  obtain ⟨hkd, h⟩ := qIs_of h
  intro h1 h2 h3 h4 ad h5 h6 H locs lsA hl hP hS
  obtain ⟨hlts, h⟩ := qIn_of h3 h
  obtain ⟨hltd, h⟩ := qIn_of h3 h
  obtain ⟨hcat, ⟨g1, g2, g3, g4, g5⟩, h⟩ := qIf_of h
  have hes := qW_get (ad := ad) (F := qF G ad M) (qK_lo hks (by decide)) hlts
  have hed := qW_get (ad := ad) (F := qF G ad M) (qK_lo hkd (by decide)) hltd
  rw [qF_long hks] at hes
  rw [qF_long hkd] at hed
  have hts := hF.2.2.2.2.2.2.2.1
  have hR := hF.2.2.2.2.2.2.2.2.2.1
  have hc4 : qCat r ≤ 4 := by simpa [Nat.ble_eq] using hcat
  refine va_copyl (D := G.1) hF.1 hF.2.1 (hF.2.2.1.trans hl.1.symm) (own := qCn (qOc T)) hF.2.2.2.2.2.2.1 (hts _ (q_ml (qOc T, 9998, x) (qIx_mem _ _ _ _ hx))) (hts _ (q_one _ (by decide +kernel))) (hts _ (q_one _ (by decide +kernel))) (hts _ (q_one _ (by decide +kernel))) hF.2.2.2.2.2.2.2.2.1.1 hP.1 hP.2.1 hS (s2 - 2) (d2 - 2) 2 2 hes hed rfl rfl rfl g1 g2 g3 g4 g5 (fun _ _ => rfl) (by omega) ?_ hd fun H1 locs1 hP1 hD1 hS1 => ?_
  · rw [qCat_sum]
    have : nativeFrameWords "java/lang/System" "arraycopy" 5 = 7 := by decide +kernel
    omega
  · refine hX _ _ _ _ _ _ h h1 h2 h3 h4 ad h5 h6 H1 locs1 lsA hl (qRep_set hP (qK_lo hkd (by decide)) hltd rfl rfl (fun _ _ => rfl) (fun j hj => qRow_ne hj) (fun _ _ => rfl) ?_ hP.2.2.2.2.2.2.2 hP1 hD1) hS1
    rw [qF_long hkd]
    dsimp only
    rw [qRow_at]
theorem qs_mmax  {len : Nat} (hF : qFr G T d p R s m args meth c) {X : qX} (hX : ∀ pc ls st uc us M, X pc ls st uc us M → qS G T ad0 n0 p l e R s m args below meth c Qf pc ls st uc us M) (hk : qChk T (pc, .invokestatic 9991, len) = true) (h : qI2 st fun x y r => qIf (Nat.ble (qCat r) 8) (X (pc + len) ls (.int (if x < y then y else x) :: r) uc us M)) : qS G T ad0 n0 p l e R s m args below meth c Qf pc ls st uc us M := by
  obtain ⟨ix, hx, hd, rfl, -⟩ := q_dec2 3 hk rfl rfl
  have hq := qI2_of h
  clear h
  obtain ⟨x, y, r, rfl, h⟩ := hq
  obtain ⟨hcat, h⟩ := qIf_of h
  intro h1 h2 h3 h4 ad h5 h6 H locs lsA hl hP hS
  have hts := hF.2.2.2.2.2.2.2.1
  have hR := hF.2.2.2.2.2.2.2.2.2.1
  have hc4 : qCat r ≤ 8 := by simpa [Nat.ble_eq] using hcat
  exact va_mmax hF.1 hF.2.1 (hF.2.2.1.trans hl.1.symm) (own := qCn (qOc T)) hF.2.2.2.2.2.2.1 (hts _ (q_ml (qOc T, 9991, ix) (qIx_mem _ _ _ _ hx))) (hts _ (q_one _ (by decide +kernel))) (hts _ (q_one _ (by decide +kernel))) (hts _ (q_one _ (List.mem_of_getElem? (i := 12) rfl))) (by omega) (by rw [qCat_sum]; omega) (by omega) (by omega) hd (hX _ _ _ _ _ _ h h1 h2 h3 h4 ad h5 h6 H locs lsA hl hP hS)
theorem qs_mmin  {len : Nat} (hF : qFr G T d p R s m args meth c) {X : qX} (hX : ∀ pc ls st uc us M, X pc ls st uc us M → qS G T ad0 n0 p l e R s m args below meth c Qf pc ls st uc us M) (hk : qChk T (pc, .invokestatic 9992, len) = true) (h : qI2 st fun x y r => qIf (Nat.ble (qCat r) 8) (X (pc + len) ls (.int (if y < x then y else x) :: r) uc us M)) : qS G T ad0 n0 p l e R s m args below meth c Qf pc ls st uc us M := by
  obtain ⟨ix, hx, hd, rfl, -⟩ := q_dec2 3 hk rfl rfl
  have hq := qI2_of h
  clear h
  obtain ⟨x, y, r, rfl, h⟩ := hq
  obtain ⟨hcat, h⟩ := qIf_of h
  intro h1 h2 h3 h4 ad h5 h6 H locs lsA hl hP hS
  have hts := hF.2.2.2.2.2.2.2.1
  have hR := hF.2.2.2.2.2.2.2.2.2.1
  have hc4 : qCat r ≤ 8 := by simpa [Nat.ble_eq] using hcat
  exact va_mmin hF.1 hF.2.1 (hF.2.2.1.trans hl.1.symm) (own := qCn (qOc T)) hF.2.2.2.2.2.2.1 (hts _ (q_ml (qOc T, 9992, ix) (qIx_mem _ _ _ _ hx))) (hts _ (q_one _ (by decide +kernel))) (hts _ (q_one _ (by decide +kernel))) (hts _ (q_one _ (List.mem_of_getElem? (i := 14) rfl))) (by omega) (by rw [qCat_sum]; omega) (by omega) (by omega) hd (hX _ _ _ _ _ _ h h1 h2 h3 h4 ad h5 h6 H locs lsA hl hP hS)
theorem qs_mabs  {len : Nat} (hF : qFr G T d p R s m args meth c) {X : qX} (hX : ∀ pc ls st uc us M, X pc ls st uc us M → qS G T ad0 n0 p l e R s m args below meth c Qf pc ls st uc us M) (hk : qChk T (pc, .invokestatic 9993, len) = true) (h : qI1 st fun x r => qIf (Nat.ble (qCat r) 8) (X (pc + len) ls (.int (if 0 ≤ x then x else 0 - x) :: r) uc us M)) : qS G T ad0 n0 p l e R s m args below meth c Qf pc ls st uc us M := by
  obtain ⟨ix, hx, hd, rfl, -⟩ := q_dec2 3 hk rfl rfl
  have hq := qI1_of h
  clear h
  obtain ⟨x, r, rfl, h⟩ := hq
  obtain ⟨hcat, h⟩ := qIf_of h
  intro h1 h2 h3 h4 ad h5 h6 H locs lsA hl hP hS
  have hts := hF.2.2.2.2.2.2.2.1
  have hR := hF.2.2.2.2.2.2.2.2.2.1
  have hc4 : qCat r ≤ 8 := by simpa [Nat.ble_eq] using hcat
  exact va_mabs hF.1 hF.2.1 (hF.2.2.1.trans hl.1.symm) (own := qCn (qOc T)) hF.2.2.2.2.2.2.1 (hts _ (q_ml (qOc T, 9993, ix) (qIx_mem _ _ _ _ hx))) (hts _ (q_one _ (by decide +kernel))) (hts _ (q_one _ (by decide +kernel))) (hts _ (q_one _ (List.mem_of_getElem? (i := 16) rfl))) (by omega) (by rw [qCat_sum]; omega) (by omega) (by omega) hd (hX _ _ _ _ _ _ h h1 h2 h3 h4 ad h5 h6 H locs lsA hl hP hS)
theorem q_mn0 {o : Nat} : qIx qMN o 9999 = none := by
  cases h : qIx qMN o 9999 with
  | none => rfl
  | some x =>
    have h1 := qIx_mem _ _ _ _ h
    have h2 : ∀ e ∈ qMN, e.2.1 ≠ 9999 := by decide +kernel
    exact absurd rfl (h2 _ h1)
theorem qs_obj  {len : Nat} (hF : qFr G T d p R s m args meth c) {X : qX} (hX : ∀ pc ls st uc us M, X pc ls st uc us M → qS G T ad0 n0 p l e R s m args below meth c Qf pc ls st uc us M) (hk : qChk T (pc, .invokespecial 9999, len) = true) (h : qA1 st fun _ r => qIf (Nat.ble (qCat r) 8) (X (pc + len) ls r uc us M)) : qS G T ad0 n0 p l e R s m args below meth c Qf pc ls st uc us M := by
  obtain ⟨ix, hx, hd, rfl, -⟩ := q_dec2 3 (o := qIx qML (qOc T) 9999) (f := .invokespecial) hk (by show (match qIx qMN (qOc T) 9999 with | some x => some x | none => qIx qML (qOc T) 9999).map Instr.invokespecial = _; rw [q_mn0]) rfl
  have hq := qA1_of h
  clear h
  obtain ⟨a, r, rfl, h⟩ := hq
  obtain ⟨hcat, h⟩ := qIf_of h
  intro h1 h2 h3 h4 ad h5 h6 H locs lsA hl hP hS
  have hts := hF.2.2.2.2.2.2.2.1
  have hR := hF.2.2.2.2.2.2.2.2.2.1
  have hc4 : qCat r ≤ 8 := by simpa [Nat.ble_eq] using hcat
  exact W.objInit (g := F0 m pc lsA ((Value.ref a :: r).map (qV ad))) hF.1 hF.2.1 (own := qCn (qOc T)) hF.2.2.2.2.2.2.1 (hts _ (q_ml (qOc T, 9999, ix) (qIx_mem _ _ _ _ hx))) (hts _ (q_one _ (by decide +kernel))) (hts _ (q_one _ (List.mem_of_getElem? (i := 5) rfl))) rfl (hl.1.trans hF.2.2.1.symm) rfl hd (by omega) (by show 2 * 0 + _ + 12 ≤ _; rw [qCat_sum]; omega) (hX _ _ _ _ _ _ h h1 h2 h3 h4 ad h5 h6 H locs lsA hl hP hS)
theorem qs_getstatic {k : Nat} {len : Nat} (hF : qFr G T d p R s m args meth c) {X : qX} (hX : ∀ pc ls st uc us M, X pc ls st uc us M → qS G T ad0 n0 p l e R s m args below meth c Qf pc ls st uc us M) (hk : qChk T (pc, .getstatic k, len) = true) (h : X (pc + len) ls (.ref 1 :: st) uc us M) : qS G T ad0 n0 p l e R s m args below meth c Qf pc ls st uc us M := by
  obtain ⟨raw, hr, hd, hl3, -⟩ := q_dec hk
  have hl3 : len = 3 := hl3
  subst hl3
  have hoc : qOc T = 5 := by
    unfold qRaw at hr
    cases hb : Nat.beq (qOc T) 5 with
    | true => exact Nat.eq_of_beq_eq_true hb
    | false => rw [hb] at hr; cases hr
  have hraw : raw = .getstatic 29 := by
    unfold qRaw at hr
    rw [hoc] at hr
    exact (Option.some.inj hr).symm
  subst hraw
  intro h1 h2 h3 h4 ad h5 h6 H locs lsA hl hP hS
  have hh := hX _ _ _ _ _ _ h h1 h2 h3 h4 ad h5 h6 H locs lsA hl hP hS
  have hOn := hF.2.2.2.2.2.2.2.2.1
  have e1 : qV ad (.ref 1) = .ref G.2.2.2.2.1 := congrArg Value.ref hP.2.2.2.1
  rw [List.map_cons, e1] at hh
  have ho := hF.2.2.2.2.2.2.1
  rw [hoc] at ho
  exact va_getsN hF.1 hF.2.1 hOn.2.2.2.1 hS (own := RX5) ho (va_Nw.use rfl hOn.2.2.2.2.2.1) (fun _ h => h) hd hh
theorem q_rto {T : qT} (h : qEx T .areturn = true) : ∃ C, qRt T = some (.object C) := by
  have h2 : (match qRt T with | some (.object _) => true | _ => false) = true := h
  split at h2
  · exact ⟨_, by assumption⟩
  · cases h2
theorem qs_iret {len : Nat} (hF : qFr G T d p R s m args meth c) {X : qX} (hX : ∀ pc ls st uc us M, X pc ls st uc us M → qS G T ad0 n0 p l e R s m args below meth c Qf pc ls st uc us M) (hR : qRet G T Q ad0 n0 p l e R s m args below meth c Qf) (hk : qChk T (pc, .ireturn, len) = true) {v : Int32} (h0 : qRt T = some .int ∨ (qRt T = some .boolean ∧ (v = 0 ∨ v = 1))) (h : Q (some (.int v)) M) : qS G T ad0 n0 p l e R s m args below meth c Qf pc ls [.int v] uc us M := by
  obtain ⟨hd, rfl, hex⟩ := q_dec1 1 hk rfl rfl
  intro h1 h2 h3 h4 ad h5 h6 H locs lsA hl hP hS
  refine W.widen h1 h2 ?_
  exact hR pc _ (some (.int v)) M ad H locs lsA hd (Or.inl ⟨v, rfl, rfl, h0⟩) h h4 h3 h5 h6 hP hS
theorem qs_lret {len : Nat} (hF : qFr G T d p R s m args meth c) {X : qX} (hX : ∀ pc ls st uc us M, X pc ls st uc us M → qS G T ad0 n0 p l e R s m args below meth c Qf pc ls st uc us M) (hR : qRet G T Q ad0 n0 p l e R s m args below meth c Qf) (hk : qChk T (pc, .lreturn, len) = true) {v : Int64} (h : Q (some (.long v)) M) : qS G T ad0 n0 p l e R s m args below meth c Qf pc ls [.long v] uc us M := by
  obtain ⟨hd, rfl, hex⟩ := q_dec1 1 hk rfl rfl
  intro h1 h2 h3 h4 ad h5 h6 H locs lsA hl hP hS
  refine W.widen h1 h2 ?_
  exact hR pc _ (some (.long v)) M ad H locs lsA hd (Or.inr (Or.inl ⟨v, rfl, rfl, of_decide_eq_true hex⟩)) h h4 h3 h5 h6 hP hS
theorem qs_vret {len : Nat} (hF : qFr G T d p R s m args meth c) {X : qX} (hX : ∀ pc ls st uc us M, X pc ls st uc us M → qS G T ad0 n0 p l e R s m args below meth c Qf pc ls st uc us M) (hR : qRet G T Q ad0 n0 p l e R s m args below meth c Qf) (hk : qChk T (pc, .return_, len) = true) (h : Q none M) : qS G T ad0 n0 p l e R s m args below meth c Qf pc ls [] uc us M := by
  obtain ⟨hd, rfl, hex⟩ := q_dec1 1 hk rfl rfl
  intro h1 h2 h3 h4 ad h5 h6 H locs lsA hl hP hS
  refine W.widen h1 h2 ?_
  exact hR pc _ none M ad H locs lsA hd (Or.inr (Or.inr (Or.inr ⟨rfl, rfl, Option.isNone_iff_eq_none.mp hex⟩))) h h4 h3 h5 h6 hP hS
theorem qs_aretr {len : Nat} (hF : qFr G T d p R s m args meth c) {X : qX} (hX : ∀ pc ls st uc us M, X pc ls st uc us M → qS G T ad0 n0 p l e R s m args below meth c Qf pc ls st uc us M) (hR : qRet G T Q ad0 n0 p l e R s m args below meth c Qf) (hk : qChk T (pc, .areturn, len) = true) {a : Nat} (h : Q (some (.ref a)) M) : qS G T ad0 n0 p l e R s m args below meth c Qf pc ls [(.ref a)] uc us M := by
  obtain ⟨hd, rfl, hex⟩ := q_dec1 1 hk rfl rfl
  intro h1 h2 h3 h4 ad h5 h6 H locs lsA hl hP hS
  refine W.widen h1 h2 ?_
  exact hR pc _ (some (.ref a)) M ad H locs lsA hd (Or.inr (Or.inr (Or.inl ⟨_, rfl, rfl, Or.inr ⟨a, rfl⟩, q_rto hex⟩))) h h4 h3 h5 h6 hP hS
theorem qs_aretn {len : Nat} (hF : qFr G T d p R s m args meth c) {X : qX} (hX : ∀ pc ls st uc us M, X pc ls st uc us M → qS G T ad0 n0 p l e R s m args below meth c Qf pc ls st uc us M) (hR : qRet G T Q ad0 n0 p l e R s m args below meth c Qf) (hk : qChk T (pc, .areturn, len) = true) (h : Q (some .null) M) : qS G T ad0 n0 p l e R s m args below meth c Qf pc ls [.null] uc us M := by
  obtain ⟨hd, rfl, hex⟩ := q_dec1 1 hk rfl rfl
  intro h1 h2 h3 h4 ad h5 h6 H locs lsA hl hP hS
  refine W.widen h1 h2 ?_
  exact hR pc _ (some .null) M ad H locs lsA hd (Or.inr (Or.inr (Or.inl ⟨_, rfl, rfl, Or.inl rfl, q_rto hex⟩))) h h4 h3 h5 h6 hP hS
end QARR
