section QMEM
variable {G : qCx} {T : qT} {ad0 : Nat → Nat} {n0 d : Nat} {p : Program} {l : Launch} {e : Env} {R : Room} {s : State} {m : MethodId} {args : Array Value} {below : List Frame} {meth : Method} {c : Code} {Qf : State → Prop}
variable {pc : Nat} {ls : List (Nat × Value)} {st : List Value} {uc us : Nat} {M : qM}
theorem q_rng {n f : Nat} {g : Nat → Value} (h : f < n) : ((List.range n).map g)[f]? = some (g f) := by
  simp [List.getElem?_map, List.getElem?_range h]
/-- a cell is set anew -/
theorem qRep_set {ad : Nat → Nat} {M' : qM} {a : Nat} {ev : va_E} {H H1 : Heap} (hP : qRep G ad M H) (h2 : 2 ≤ a) (hlt : a < M.1 + 2) (hn : M'.1 = M.1) (hN : M'.2.1 = M.2.1) (hI : ∀ k, k ≠ a → M'.2.2.1 k = M.2.2.1 k) (hL : ∀ k, k ≠ a → M'.2.2.2.1 k = M.2.2.2.1 k) (hR : ∀ k, k ≠ a → M'.2.2.2.2 k = M.2.2.2.2 k)
    (he : qF G ad M' a = ev) (hRb : qRb M') (hP1 : va_P G.1 vwCl ((qW ad M.1 (qF G ad M)).set (a - 2) (ad a, ev)) H1) (hD1 : va_D (qAr G) ((qW ad M.1 (qF G ad M)).set (a - 2) (ad a, ev))) : qRep G ad M' H1 := by
  have e1 := qW_set (ad := ad) (F := qF G ad M) (F' := qF G ad M') h2 hlt he (fun k hk => qF_eq (by rw [hN]) (hI k hk) (hL k hk) (fun j => by rw [hR k hk]))
  rw [e1] at hP1 hD1
  obtain ⟨-, -, c1, c2, c3, c4, c5, -⟩ := hP
  rw [← hn] at hP1 hD1
  exact ⟨hP1, hD1, c1, c2, by rw [hN]; exact c3, by rw [hI 0 (by omega)]; exact c4, by rw [hI 1 (by omega)]; exact c5, hRb⟩
/-- a cell comes -/
theorem qRep_new {ad : Nat → Nat} {M' : qM} {q : Nat} {ev : va_E} {H H1 : Heap} (hP : qRep G ad M H) (hn : M'.1 = M.1 + 1) (hN0 : M'.2.1 0 = M.2.1 0) (hN : ∀ k, k ≠ M.1 + 2 → qLen M'.2.1 k = qLen M.2.1 k) (hI : ∀ k, k ≠ M.1 + 2 → M'.2.2.1 k = M.2.2.1 k) (hL : ∀ k, k ≠ M.1 + 2 → M'.2.2.2.1 k = M.2.2.2.1 k) (hR : ∀ k, k ≠ M.1 + 2 → M'.2.2.2.2 k = M.2.2.2.2 k)
    (he : qF G (fun k => if k = M.1 + 2 then q else ad k) M' (M.1 + 2) = ev) (hRb : qRb M') (hP1 : va_P G.1 vwCl (qW ad M.1 (qF G ad M) ++ [(q, ev)]) H1) (hD1 : va_D (qAr G) (qW ad M.1 (qF G ad M) ++ [(q, ev)])) : qRep G (fun k => if k = M.1 + 2 then q else ad k) M' H1 := by
  obtain ⟨-, -, c1, c2, c3, c4, c5, c6⟩ := hP
  have e1 := qW_push (ad := ad) (q := q) (F := qF G ad M) (F' := qF G (fun k => if k = M.1 + 2 then q else ad k) M') he (fun k _ hk => qF_eq (hN k (by omega)) (hI k (by omega)) (hL k (by omega)) (fun j => by
    rw [hR k (by omega)]
    cases hr : M.2.2.2.2 k j with
    | none => rfl
    | some x =>
      have := c6 k j x hr
      simp only [Option.map_some]
      rw [if_neg (by omega)]))
  rw [e1, ← hn] at hP1 hD1
  refine ⟨hP1, hD1, ?_, ?_, by rw [hN0]; exact c3, by rw [hI 0 (by omega)]; exact c4, by rw [hI 1 (by omega)]; exact c5, hRb⟩
  · show (if 0 = M.1 + 2 then q else ad 0) = _
    rw [if_neg (by omega)]; exact c1
  · show (if 1 = M.1 + 2 then q else ad 1) = _
    rw [if_neg (by omega)]; exact c2
theorem qRefs_map {ad ad' : Nat → Nat} {n : Nat} (ha : ∀ k, k < n → ad' k = ad k) : ∀ l : List Value, qRefs n l → l.map (qV ad') = l.map (qV ad) := by
  intro l
  induction l with
  | nil => intro _; rfl
  | cons v r ih =>
    intro h
    cases v <;> simp only [qRefs] at h <;> simp only [List.map_cons, qV] <;> first | (rw [ih h]; done) | (rw [ih h.2, ha _ h.1])
theorem qRefs_ls {ad ad' : Nat → Nat} {n : Nat} (ha : ∀ k, k < n → ad' k = ad k) : ∀ ls : List (Nat × Value), qRefs n (ls.map Prod.snd) → qLs ad' ls = qLs ad ls := by
  intro ls
  induction ls with
  | nil => intro _; rfl
  | cons q r ih =>
    intro h
    obtain ⟨i, v⟩ := q
    simp only [List.map_cons] at h
    have h1 : qV ad' v = qV ad v ∧ qRefs n (r.map Prod.snd) := by
      cases v <;> simp only [qRefs] at h <;> first | exact ⟨rfl, h⟩ | exact ⟨by simp only [qV]; rw [ha _ h.1], h.2⟩
    have h2 := ih h1.2
    unfold qLs at h2 ⊢
    rw [List.map_cons, List.map_cons, h2, h1.1]
theorem q_good {ws : List Cond} (h : ∀ w ∈ ws, w ∈ qTbl) : GoodIn qTbl ws := fun w hw => ⟨h w hw, good_of_word (List.mem_filter.mp (h w hw)).2⟩
/-! fields -/
theorem qFv_ref {ad : Nat → Nat} {k f : Nat} (h : qTf (qK k) f = 2) : qFv ad M k f = va_rf ((M.2.2.2.2 k f).map ad) := by
  unfold qFv
  rw [h]
theorem qFv_int {ad : Nat → Nat} {k f : Nat} (h : qTf (qK k) f ≠ 2) : qFv ad M k f = .int (M.2.2.1 k f) := by
  unfold qFv
  have : Nat.beq (qTf (qK k) f) 2 = false := by
    cases hb : Nat.beq (qTf (qK k) f) 2 with
    | true => exact absurd (Nat.eq_of_beq_eq_true hb) h
    | false => rfl
  rw [this]
theorem qV_rf (ad : Nat → Nat) (v : Option Nat) : qV ad (va_rf v) = va_rf (v.map ad) := by cases v <;> rfl
theorem q_m2 {A B : Prop} {n : Nat} (h : match n with | 2 => A | _ => B) : (n = 2 ∧ A) ∨ (n ≠ 2 ∧ B) := by
  split at h
  · exact Or.inl ⟨rfl, h⟩
  · rename_i hn
    exact Or.inr ⟨hn, h⟩
theorem qs_getfield {k : Nat} {len : Nat} (hF : qFr G T d p R s m args meth c) {X : qX} (hX : ∀ pc ls st uc us M, X pc ls st uc us M → qS G T ad0 n0 p l e R s m args below meth c Qf pc ls st uc us M) (hk : qChk T (pc, .getfield k, len) = true)
    (h : qA1 st fun a r => qIs a (k / 100) (qIn (qPh T) a M (match qTf (k / 100) (k % 100) with
      | 2 => (match (bif qPh T then qG a (k % 100) else none) with
        | some b => X (pc + len) ls (.ref b :: r) uc us M
        | none => ∃ v : Option Nat, M.2.2.2.2 a (k % 100) = v ∧ X (pc + len) ls (va_rf v :: r) uc us M)
      | _ => X (pc + len) ls (.int (M.2.2.1 a (k % 100)) :: r) uc us M))) : qS G T ad0 n0 p l e R s m args below meth c Qf pc ls st uc us M := by
  obtain ⟨x, hx, hd, rfl, hex⟩ := q_dec2 3 hk rfl rfl
  obtain ⟨a, r, rfl, h⟩ := qA1_of h
  obtain ⟨hka, h⟩ := qIs_of h
  intro h1 h2 h3 h4 ad h5 h6 H locs lsA hl hP hS
  obtain ⟨hlt, h⟩ := qIn_of h3 h
  simp only [qEx, Nat.blt, Bool.and_eq_true, Nat.ble_eq] at hex
  have hc : k / 100 < 13 := by omega
  have hf : k % 100 < qNf (k / 100) := by omega
  obtain ⟨c1, c2, c3, c4, c5, c6, c7⟩ := q_cls hc
  have he := qW_get (ad := ad) (F := qF G ad M) (qK_lo hka (by omega)) hlt
  rw [qF_obj hka hc] at he
  refine va_get (D := G.1) (ci := k / 100) (C := (qCls (k / 100)).1) (T := (qCls (k / 100)).2.1) (N := (qCls (k / 100)).2.2) (own := qCn (qOc T)) hF.1 hF.2.1 hF.2.2.2.2.2.2.2.1 c2 hF.2.2.2.2.2.2.1 hF.2.2.2.2.2.2.2.2.1.1 hP.1 (a - 2) he c1 (k % 100) (by rw [c3]; exact hf) (hF.2.2.2.2.2.2.2.1 _ (q_fl (qOc T, k, x) (qIx_mem _ _ _ _ hx))) (fun _ h => h) (q_rng hf) hd ?_
  rcases q_m2 h with ⟨ht, h⟩ | ⟨ht, h⟩
  · rw [qFv_ref (by rw [hka]; exact ht)]
    cases hg : (bif qPh T then qG a (k % 100) else none) with
    | some b =>
      rw [hg] at h
      have hph : qPh T = true := by
        cases hq : qPh T with
        | true => rfl
        | false => rw [hq] at hg; cases hg
      rw [hph] at hg
      rw [(h3 hph).2 a hlt _ _ hg]
      exact hX _ _ _ _ _ _ h h1 h2 h3 h4 ad h5 h6 H locs lsA hl hP hS
    | none =>
      rw [hg] at h
      obtain ⟨v, hv, h⟩ := h
      have := hX _ _ _ _ _ _ h h1 h2 h3 h4 ad h5 h6 H locs lsA hl hP hS
      rw [List.map_cons, qV_rf] at this
      rw [hv]
      exact this
  · rw [qFv_int (by rw [hka]; exact ht)]
    exact hX _ _ _ _ _ _ h h1 h2 h3 h4 ad h5 h6 H locs lsA hl hP hS
/-- putting into a field: the row of the machine, whatever the field's finality -/
theorem q_putrow {k x : Nat} {a : Nat} {v : Value} {ad : Nat → Nat} {H : Heap} {locs : List Loc} {lsA : Array Slot} {rest : List Value} (hF : qFr G T d p R s m args meth c) (hx : qIx qFL (qOc T) k = some x) (hd : decode (qB T) pc = .ok (.putfield x, 3)) (hex : qEx T (.putfield k) = true) (hka : qK a = k / 100) (hlt : a < M.1 + 2) (hP : qRep G ad M H) (hS : va_S (qAr G) s.heap H locs)
    (hn : narrow (qTy (k / 100) (k % 100)) v = v) (hfit : fits (qTy (k / 100) (k % 100)) v = true)
    (kk : ∀ (H1 : Heap) (locs1 : List Loc), va_P G.1 vwCl ((qW ad M.1 (qF G ad M)).set (a - 2) (ad a, .inr (k / 100, ((List.range (qNf (k / 100))).map (qFv ad M a)).set (k % 100) v))) H1 → va_D (qAr G) ((qW ad M.1 (qF G ad M)).set (a - 2) (ad a, .inr (k / 100, ((List.range (qNf (k / 100))).map (qFv ad M a)).set (k % 100) v))) → va_S (qAr G) s.heap H1 locs1 → W p l e R s m args below meth c H1 locs1 uc us Qf (F0 m (pc + 3) lsA rest)) :
    W p l e R s m args below meth c H locs uc us Qf (F0 m pc lsA (v :: .ref (ad a) :: rest)) := by
  simp only [qEx, Nat.blt, Bool.and_eq_true, Bool.or_eq_true, Nat.ble_eq, Bool.not_eq_true', decide_eq_true_eq] at hex
  have hc : k / 100 < 13 := by omega
  have hf : k % 100 < qNf (k / 100) := by omega
  obtain ⟨c1, c2, c3, c4, c5, c6, c7⟩ := q_cls hc
  have he := qW_get (ad := ad) (F := qF G ad M) (qK_lo hka (by omega)) hlt
  rw [qF_obj hka hc] at he
  have hf3 : k % 100 < (qCls (k / 100)).2.2 := by rw [c3]; exact hf
  have hlen : k % 100 < ((List.range (qNf (k / 100))).map (qFv ad M a)).length := by simpa using hf
  have hlink := hF.2.2.2.2.2.2.2.1 _ (q_fl (qOc T, k, x) (qIx_mem _ _ _ _ hx))
  by_cases hfin : ((qCls (k / 100)).2.1 (k % 100)).2.2.2 = true
  · rcases hex.2.2 with z | ⟨z1, z2, z3⟩
    · rw [hfin] at z; cases z
    · have hoc := Nat.eq_of_beq_eq_true z2
      exact va_putF (D := G.1) (ci := k / 100) (C := (qCls (k / 100)).1) (T := (qCls (k / 100)).2.1) (N := (qCls (k / 100)).2.2) (own := qCn (qOc T)) hF.1 hF.2.1 hF.2.2.2.2.2.2.2.1 c2 (qTy (k / 100)) c5 c4 hF.2.2.2.2.2.2.1 hF.2.2.2.2.2.2.2.2.1.1 hP.1 hP.2.1 hS (a - 2) he c1 (k % 100) hf3 hlink (fun _ h => h) hfin (hF.2.2.2.2.2.1 z1) (by rw [(c6 _ hf3).1, c7, hoc]) (c5 _ hf3) hn hfit hlen hd kk
  · exact va_put (D := G.1) (ci := k / 100) (C := (qCls (k / 100)).1) (T := (qCls (k / 100)).2.1) (N := (qCls (k / 100)).2.2) (own := qCn (qOc T)) hF.1 hF.2.1 hF.2.2.2.2.2.2.2.1 c2 (qTy (k / 100)) c5 c4 hF.2.2.2.2.2.2.1 hF.2.2.2.2.2.2.2.2.1.1 hP.1 hP.2.1 hS (a - 2) he c1 (k % 100) hf3 hlink (fun _ h => h) (by simpa using hfin) (c5 _ hf3) hn hfit hlen hd kk
theorem q_narb {x : Int32} (h : x = 0 ∨ x = 1) : narrow .boolean (.int x) = .int x := by
  rcases h with rfl | rfl <;> rfl
theorem q_rb2 {a f : Nat} {v : Option Nat} (h : qRb M) (hv : qRfOk (M.1 + 2) v) : qRb (M.1, M.2.1, M.2.2.1, M.2.2.2.1, q2 M.2.2.2.2 a f v) := by
  intro k g x hx
  dsimp only [q2] at hx ⊢
  split at hx
  · split at hx
    · subst hx; exact hv
    · exact h _ _ _ hx
  · exact h _ _ _ hx
theorem q_stat2 {a f : Nat} {v : Option Nat} (h : qStat M) (hg : qG a f = none) : qStat (M.1, M.2.1, M.2.2.1, M.2.2.2.1, q2 M.2.2.2.2 a f v) := by
  refine ⟨h.1, fun k hk g x hx => ?_⟩
  have := h.2 k hk g x hx
  dsimp only [q2]
  split
  · rename_i e
    subst e
    split
    · rename_i e
      subst e
      rw [hg] at hx
      cases hx
    · exact this
  · exact this
theorem q_putI {k x : Nat} {a : Nat} {z : Int32} {r : List Value} (hF : qFr G T d p R s m args meth c) {X : qX} (hX : ∀ pc ls st uc us M, X pc ls st uc us M → qS G T ad0 n0 p l e R s m args below meth c Qf pc ls st uc us M) (hx : qIx qFL (qOc T) k = some x) (hd : decode (qB T) pc = .ok (.putfield x, 3)) (hex : qEx T (.putfield k) = true) (hka : qK a = k / 100) (ht : qTf (k / 100) (k % 100) ≠ 2)
    (hn : narrow (qTy (k / 100) (k % 100)) (.int z) = .int z) (hfit : fits (qTy (k / 100) (k % 100)) (.int z) = true)
    (h : qIn (qPh T) a M (X (pc + 3) ls r uc us (M.1, M.2.1, q2 M.2.2.1 a (k % 100) z, M.2.2.2.1, M.2.2.2.2))) : qS G T ad0 n0 p l e R s m args below meth c Qf pc ls (.int z :: .ref a :: r) uc us M := by
  intro h1 h2 h3 h4 ad h5 h6 H locs lsA hl hP hS
  obtain ⟨hlt, h⟩ := qIn_of h3 h
  have hc : k / 100 < 13 := by
    simp only [qEx, Nat.blt, Bool.and_eq_true, Nat.ble_eq] at hex
    omega
  refine q_putrow hF hx hd hex hka hlt hP hS hn hfit fun H1 locs1 hP1 hD1 hS1 => ?_
  refine hX _ _ _ _ _ _ h h1 h2 h3 h4 ad h5 h6 H1 locs1 lsA hl ?_ hS1
  refine qRep_set hP (qK_lo hka (by omega)) hlt rfl rfl (fun j hj => q2_ne hj) (fun _ _ => rfl) (fun _ _ => rfl) ?_ hP.2.2.2.2.2.2.2 hP1 hD1
  rw [qF_obj hka hc]
  congr 2
  refine (q_set_map ?_ ?_).symm
  · rw [qFv_int (by rw [hka]; exact ht)]
    exact congrArg Value.int q2_at
  · intro j hj
    unfold qFv
    dsimp only
    rw [q2_nj hj]
theorem q_putR {k x : Nat} {a : Nat} {v : Option Nat} {r : List Value} (hF : qFr G T d p R s m args meth c) {X : qX} (hX : ∀ pc ls st uc us M, X pc ls st uc us M → qS G T ad0 n0 p l e R s m args below meth c Qf pc ls st uc us M) (hx : qIx qFL (qOc T) k = some x) (hd : decode (qB T) pc = .ok (.putfield x, 3)) (hex : qEx T (.putfield k) = true) (hka : qK a = k / 100) (ht : qTf (k / 100) (k % 100) = 2)
    (h : qIn (qPh T) a M (qIf (!(qPh T) || !((qG a (k % 100)).isSome)) (qRfOk (M.1 + 2) v ∧ X (pc + 3) ls r uc us (M.1, M.2.1, M.2.2.1, M.2.2.2.1, q2 M.2.2.2.2 a (k % 100) v)))) : qS G T ad0 n0 p l e R s m args below meth c Qf pc ls (va_rf v :: .ref a :: r) uc us M := by
  intro h1 h2 h3 h4 ad h5 h6 H locs lsA hl hP hS
  obtain ⟨hlt, h⟩ := qIn_of h3 h
  obtain ⟨hg, hv, h⟩ := qIf_of h
  have hc : k / 100 < 13 := by
    simp only [qEx, Nat.blt, Bool.and_eq_true, Nat.ble_eq] at hex
    omega
  have hf : k % 100 < (qCls (k / 100)).2.2 := by
    rw [(q_cls hc).2.2.1]
    simp only [qEx, Nat.blt, Bool.and_eq_true, Nat.ble_eq] at hex
    omega
  have htok := ((q_cls hc).2.2.2.2.2.1 _ hf).2
  have hsh : (∃ C, qTy (k / 100) (k % 100) = .object C) ∨ ∃ t, qTy (k / 100) (k % 100) = .array t := by
    unfold qTok at htok
    rw [ht] at htok
    cases hty : qTy (k / 100) (k % 100) <;> rw [hty] at htok <;> first | exact Or.inl ⟨_, rfl⟩ | exact Or.inr ⟨_, rfl⟩ | cases htok
  have hnf : narrow (qTy (k / 100) (k % 100)) (va_rf (v.map ad)) = va_rf (v.map ad) ∧ fits (qTy (k / 100) (k % 100)) (va_rf (v.map ad)) = true := by
    rcases hsh with ⟨C, hC⟩ | ⟨C, hC⟩ <;> rw [hC] <;> cases v <;> exact ⟨rfl, rfl⟩
  have e0 : (va_rf v :: Value.ref a :: r).map (qV ad) = va_rf (v.map ad) :: .ref (ad a) :: r.map (qV ad) := by rw [List.map_cons, qV_rf]; rfl
  rw [e0]
  refine q_putrow hF hx hd hex hka hlt hP hS hnf.1 hnf.2 fun H1 locs1 hP1 hD1 hS1 => ?_
  refine hX _ _ _ _ _ _ h h1 h2 (fun hph => q_stat2 (h3 hph) ?_) h4 ad h5 h6 H1 locs1 lsA hl ?_ hS1
  · rw [hph] at hg
    cases hq : qG a (k % 100) with
    | none => rfl
    | some y => rw [hq] at hg; cases hg
  · refine qRep_set hP (qK_lo hka (by omega)) hlt rfl rfl (fun _ _ => rfl) (fun _ _ => rfl) (fun j hj => q2_ne hj) ?_ (q_rb2 hP.2.2.2.2.2.2.2 hv) hP1 hD1
    rw [qF_obj hka hc]
    congr 2
    refine (q_set_map ?_ ?_).symm
    · rw [qFv_ref (by rw [hka]; exact ht)]
      exact congrArg (fun z : Option Nat => va_rf (z.map ad)) q2_at
    · intro j hj
      unfold qFv
      dsimp only
      rw [q2_nj hj]
theorem qs_putfield {k : Nat} {len : Nat} (hF : qFr G T d p R s m args meth c) {X : qX} (hX : ∀ pc ls st uc us M, X pc ls st uc us M → qS G T ad0 n0 p l e R s m args below meth c Qf pc ls st uc us M) (hk : qChk T (pc, .putfield k, len) = true)
    (h : match qTf (k / 100) (k % 100) with
    | 2 => qVA st fun a v r => qIs a (k / 100) (qIn (qPh T) a M (qIf (!(qPh T) || !((qG a (k % 100)).isSome)) (qRfOk (M.1 + 2) v ∧ X (pc + len) ls r uc us (M.1, M.2.1, M.2.2.1, M.2.2.2.1, q2 M.2.2.2.2 a (k % 100) v))))
    | 1 => qIA st fun a x r => qIs a (k / 100) (qIn (qPh T) a M ((x = 0 ∨ x = 1) ∧ X (pc + len) ls r uc us (M.1, M.2.1, q2 M.2.2.1 a (k % 100) x, M.2.2.2.1, M.2.2.2.2)))
    | _ => qIA st fun a x r => qIs a (k / 100) (qIn (qPh T) a M (X (pc + len) ls r uc us (M.1, M.2.1, q2 M.2.2.1 a (k % 100) x, M.2.2.2.1, M.2.2.2.2)))) : qS G T ad0 n0 p l e R s m args below meth c Qf pc ls st uc us M := by
  obtain ⟨x, hx, hd, rfl, hex⟩ := q_dec2 3 hk rfl rfl
  have hc : k / 100 < 13 := by
    simp only [qEx, Nat.blt, Bool.and_eq_true, Nat.ble_eq] at hex
    omega
  have hf : k % 100 < (qCls (k / 100)).2.2 := by
    rw [(q_cls hc).2.2.1]
    simp only [qEx, Nat.blt, Bool.and_eq_true, Nat.ble_eq] at hex
    omega
  have htok := ((q_cls hc).2.2.2.2.2.1 _ hf).2
  unfold qTok at htok
  split at h
  · rename_i ht
    obtain ⟨a, v, r, hst, h⟩ := qVA_of h
    obtain ⟨hka, h⟩ := qIs_of h
    rw [hst]
    exact q_putR hF hX hx hd hex hka ht h
  · rename_i ht
    obtain ⟨a, z, r, hst, h⟩ := qIA_of h
    obtain ⟨hka, h⟩ := qIs_of h
    rw [hst]
    have hty : qTy (k / 100) (k % 100) = .boolean := by
      rw [ht] at htok
      cases hty : qTy (k / 100) (k % 100) <;> rw [hty] at htok <;> first | rfl | cases htok
    intro h1 h2 h3
    obtain ⟨hlt, hz, h⟩ := qIn_of h3 h
    have h' : qIn (qPh T) a M (X (pc + 3) ls r uc us (M.1, M.2.1, q2 M.2.2.1 a (k % 100) z, M.2.2.2.1, M.2.2.2.2)) := by
      unfold qIn
      split
      · exact h
      · exact ⟨hlt, h⟩
    exact q_putI hF hX hx hd hex hka (by omega) (by rw [hty]; exact q_narb hz) (by rw [hty]; rcases hz with rfl | rfl <;> rfl) h' h1 h2 h3
  · rename_i ht1 ht2
    obtain ⟨a, z, r, hst, h⟩ := qIA_of h
    obtain ⟨hka, h⟩ := qIs_of h
    rw [hst]
    have hty : qTy (k / 100) (k % 100) = .int := by
      split at htok
      · assumption
      · rename_i e1 e2; exact absurd e1 ht2
      · rename_i e1 e2; exact absurd e1 ht1
      · rename_i e1 e2; exact absurd e1 ht1
      · cases htok
    exact q_putI hF hX hx hd hex hka ht1 (by rw [hty]; rfl) (by rw [hty]; rfl) h
end QMEM
