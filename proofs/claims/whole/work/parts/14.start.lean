/-! THE CLAIM OUT OF ONE WALK OF THE LAW'S BODY. Your part is whole_start (and what it stands on); all else here is the same for every law, but numbers. -/
def R_law : String := "InscribedStonesLaw"
def lw_P (b : Addr) (xs : List Int32) (args : Array Value) (s : State) : Prop := args = #[.ref b] ∧ s.IntsAt b xs ∧ xs.length ≤ 3584 ∧ (Jvm.Cond.and given_1 narrow_1).before args s = true
def lw_Q (_ : Array Value) (s : State) (o : Outcome) (t : State) : Prop := o = .returned (some (.int 1)) ∧ Framed s o t [] 600000 7302250
def lw_Z (below : List Frame) (a : Array Value) (s : State) : State → Prop := fun t => ∃ o, t.status = .running ∧ Ended t below o ∧ lw_Q a s o t
/-- the law's own end, with 1 on the stack, nothing written that was there before, its room as the claim has it -/
theorem lw_ret {p : Program} {l : Launch} {e : Env} {s : State} {m : MethodId} {below : List Frame} {meth : Method} {c : Code} {b : Nat} (hx : p.tables.exec = Jvm.exec) (hb : c.code = code) (hr : meth.sig.returnType = ret) (hlocks : meth.locks = false) {pc : Nat} {H : Heap} {ls : Array Slot} (hdg : decode code pc = .ok (.ireturn, 1)) : W p l e room_1 s m #[Value.ref b] below meth c H [] 600000 7302250 (lw_Z below #[Value.ref b] s) (F0 m pc ls [.int 1]) := by
  intro T hT X
  obtain ⟨fs, hret, hrun, hended, hW, hframe⟩ := X.leave (v := some (.int 1)) (hlocks := hlocks) (fun h => by rw [hr] at h; cases h)
  have hmeth' : T.vm.method? m = some meth := X.method'
  refine ⟨T.setFrames fs, ?_, .returned (some (.int 1)), hrun, hended, rfl, ⟨_, rfl⟩, hW, hframe⟩
  jvm_step X.here [X.here.top, hx, hb, hdg, hmeth', hr, ret, narrow_b1]
  (try refine ⟨rfl, ?_⟩); (try refine ⟨rfl, ?_⟩)
  first | (intro acts; rw [hret _ acts rfl rfl rfl]) | rw [hret _ _ rfl rfl rfl]
  exact Steps.refl _
/-- what holds at the law's entry: the machine, the code, the tables' words (any of lw_tbl by 'hts w (by decide +kernel)'), the script of L ints xs at the cell b, what the Statement gives of the start (any of its parts by flat_of_before) -/
def lw_At (p : Program) (s : State) (m : MethodId) (meth : Method) (c : Code) (b L : Nat) (xs : Nat → Int32) : Prop :=
  p.tables.exec = Jvm.exec ∧ c.code = code ∧ meth.sig.returnType = ret ∧ c.maxLocals = 4 ∧ s.vm.findClass R_law = some m.cls ∧ (∀ w ∈ lw_tbl, w.before #[Value.ref b] s = true) ∧ va_X b L xs s s.heap ∧ b < s.heap.size ∧ meth.locks = false ∧ (Jvm.Cond.and given_1 narrow_1).before #[Value.ref b] s = true
/-- the memory at the law's start: the script and the table -/
def qM0 (L : Nat) (xs : Nat → Int32) : qM := (0, fun k => if k = 0 then L else 0, fun k => if k = 0 then xs else if k = 1 then qKA else fun _ => 0, fun _ _ => 0, fun _ _ => none)
/-- THE CLAIM IN THE PLAIN MACHINE: the law answers 1 -/
def qGoal : Prop := ∀ (L : Nat) (xs : Nat → Int32), L ≤ 3584 → ∃ d : Nat, d ≤ 2000 ∧ qWP d qLaw [.ref 0] (qM0 L xs) (fun v _ => v = some (.int 1))
theorem q_arr {s : State} {A : Array Value} {ty : FieldType} (hp : ∀ C, ty ≠ .object C) (h : (Cond.arrayClass ty).before A s = true) : ∃ cA : ClassId, ArrOfT s cA ty ∧ va_RA s cA ty := by
  obtain ⟨cB, kB, comp, hcB, hkB, hkind⟩ := Cond.arrayClass_spec h
  refine ⟨cB, fun n z => ⟨fun k h => (by cases h), kB, hkB, comp, hkind⟩, ?_⟩
  cases ty <;> first | exact absurd rfl (hp _) | exact hcB
theorem q_arrO {s : State} {C : String} (h : va_AO C s) : ∃ cA : ClassId, ArrOfT s cA (.object C) ∧ va_RA s cA (.object C) := by
  obtain ⟨comp, c, k, h1, h2, h3, h4, h5⟩ := Cond.arrayOver_spec h
  exact ⟨c, fun n z => ⟨fun k h => (by cases h), k, h3, comp, h4⟩, k, comp, h3, h4, h1, h5⟩
set_option maxRecDepth 100000 in
theorem whole_start_of (hGoal : qGoal) {p : Program} {e : Env} {s : State} {m : MethodId} {below : List Frame} {meth : Method} {c : Code} (l : Launch) {b L : Nat} {xs : Nat → Int32} (hL : L ≤ 3584) (C0 : lw_At p s m meth c b L xs) : W p l e room_1 s m #[Value.ref b] below meth c s.heap [] 0 0 (lw_Z below #[Value.ref b] s) (entryFrame m ([Value.ref b] : List Value).toArray 4) := by
  obtain ⟨hx, hb, hr, hml, hown, hts0, hX, hbl, hlocks, hgv⟩ := C0
  have hts : ∀ w ∈ qTbl, w.before #[Value.ref b] s = true := fun w hw => hts0 w (List.mem_filter.mp hw).1
  have hs := flat_of_before _ hgv
  have hA : ∀ a : Nat, a < s.heap.size → ¬ (fun q : Nat => s.heap.size ≤ q) a := fun a h1 h2 => by
    have h2 : s.heap.size ≤ a := h2
    omega
  have harr : (Cond.arrayOf (.static "InscribedStones" "KIND_ABOVE" "[I") .int).before #[Value.ref b] s = true := hs _ (by decide +kernel)
  have hlen := va_eqt (hs (Cond.eq (.length (.static "InscribedStones" "KIND_ABOVE" "[I")) (.int 6)) (by decide +kernel))
  have e0 := va_eqt (hs (Cond.eq (.elem (.static "InscribedStones" "KIND_ABOVE" "[I") (.int 0)) (.int (-1))) (by decide +kernel))
  have e1 := va_eqt (hs (Cond.eq (.elem (.static "InscribedStones" "KIND_ABOVE" "[I") (.int 1)) (.int 0)) (by decide +kernel))
  have e2 := va_eqt (hs (Cond.eq (.elem (.static "InscribedStones" "KIND_ABOVE" "[I") (.int 2)) (.int 0)) (by decide +kernel))
  have e3 := va_eqt (hs (Cond.eq (.elem (.static "InscribedStones" "KIND_ABOVE" "[I") (.int 3)) (.int 0)) (by decide +kernel))
  have e4 := va_eqt (hs (Cond.eq (.elem (.static "InscribedStones" "KIND_ABOVE" "[I") (.int 4)) (.int 3)) (by decide +kernel))
  have e5 := va_eqt (hs (Cond.eq (.elem (.static "InscribedStones" "KIND_ABOVE" "[I") (.int 5)) (.int 0)) (by decide +kernel))
  obtain ⟨t, ht, hT⟩ := va_Tof (N := 6) (f := fun j => .int (qKA j)) (A := fun q : Nat => s.heap.size ≤ q) (by decide) harr hlen (fun j hj => by
    match j, hj with
    | 0, _ => exact e0
    | 1, _ => exact e1
    | 2, _ => exact e2
    | 3, _ => exact e3
    | 4, _ => exact e4
    | 5, _ => exact e5) hA
  have hZ := va_Zref (hts0 _ (q_two (.laysStatic "InscribedStones" "KIND_ABOVE" "[I") (by decide +kernel))) (hts _ (q_one (.initialized "InscribedStones") (by decide +kernel))) ht hA
  have hXT : va_T .int b L (fun j => .int (xs j)) (fun q : Nat => s.heap.size ≤ q) s s.heap := by
    obtain ⟨scr, g1, g2, g3, g4, g5⟩ := hX
    exact ⟨scr, g1, g2, g3, by omega, by rw [g4], g5, hA b hbl⟩
  have hcls : ∀ ci : Nat, ∃ q : ClassId × (Nat → Nat), ci < 13 → u_Kn s (qCls ci).1 (qCls ci).2.1 (qCls ci).2.2 q.1 q.2 := by
    intro ci
    by_cases hc : ci < 13
    · obtain ⟨c1, c2, -⟩ := q_cls hc
      have hk13 : ci ∈ qC13 := by
        have : ∀ k, k < 13 → k ∈ qC13 := by decide +kernel
        exact this ci hc
      obtain ⟨cC, iS, hKn⟩ := u_known (C := (qCls ci).1) (T := (qCls ci).2.1) (N := (qCls ci).2.2) (n := (qCls ci).2.2) hts c2 (hts _ (q_cn ci hk13))
      exact ⟨(cC, iS), fun _ => hKn⟩
    · exact ⟨(0, fun _ => 0), fun h => absurd h hc⟩
  obtain ⟨fD, hfD⟩ := Classical.axiomOfChoice hcls
  have hAO : va_AO RX9 s := va_AO.of (A := #[Value.ref b]) (hts0 _ (q_two (.arrayOver (.object RX9)) (by decide +kernel)))
  obtain ⟨a13, k13⟩ := q_arr (ty := .byte) (fun C h => by cases h) (hts _ (q_one (.arrayClass .byte) (by decide +kernel)))
  obtain ⟨a14, k14⟩ := q_arr (ty := .int) (fun C h => by cases h) (hts _ (q_one (.arrayClass .int) (by decide +kernel)))
  obtain ⟨a15, k15⟩ := q_arr (ty := .long) (fun C h => by cases h) (hts _ (q_one (.arrayClass .long) (by decide +kernel)))
  obtain ⟨a16, k16⟩ := q_arr (ty := .boolean) (fun C h => by cases h) (hts _ (q_one (.arrayClass .boolean) (by decide +kernel)))
  obtain ⟨a17, k17⟩ := q_arrO hAO
  obtain ⟨G, hG⟩ : ∃ G : qCx, G = ((fun k => (fD k).1, fun k => (fD k).2), (fun k => if k = 13 then a13 else if k = 14 then a14 else if k = 15 then a15 else if k = 16 then a16 else a17), s.heap.size, b, t, L, xs) := ⟨_, rfl⟩
  have hK : va_K G.1 vwCl (qTys G) s := by
    subst hG
    refine ⟨fun ci q hq => ?_, fun k q hq => ?_⟩
    · have hc : ci < 13 := (List.getElem?_eq_some_iff.mp hq).1
      have e1 : q = qCls ci := Option.some.inj (hq.symm.trans (q_cls hc).1)
      rw [e1]
      exact hfD ci hc
    · have hk5 : k < 5 := (List.getElem?_eq_some_iff.mp hq).1
      match k, hk5, hq with
      | 0, _, hq => cases hq; exact k13
      | 1, _, hq => cases hq; exact k14
      | 2, _, hq => cases hq; exact k15
      | 3, _, hq => cases hq; exact k16
      | 4, _, hq => cases hq; exact k17
  have hOn : qOn G s := by
    refine ⟨hK, ?_, ?_, ?_, fun e he => va_Nw.of rfl (hts0 _ (q_mn e he)), va_Nw.of rfl (hts0 _ (q_two (.fieldLinkNest RX5 29 "InscribedStones" "KIND_ABOVE" "[I" "InscribedStones") (by decide +kernel))), hAO⟩
    · subst hG; exact hXT
    · subst hG; exact hT
    · subst hG; exact hZ
  obtain ⟨d, hd, hWP⟩ := hGoal L xs hL
  cases d with
  | zero => exact hWP.elim
  | succ d =>
    obtain ⟨hj, hcat, hJ⟩ := hWP
    have hTe : qTab qLaw = m_L_law := rfl
    rw [hTe] at hJ
    have hF : qFr G m_L_law d p room_1 s m #[Value.ref b] meth c := ⟨hx, hb, hml, hr, hlocks, fun h => absurd h (by decide +kernel), hown, hts, hOn, ⟨by show d + 1 ≤ 2048; omega, by show 40 * (d + 1) ≤ 84000; omega, Nat.le_refl _, Nat.le_refl _⟩, by subst hG; exact Nat.le_refl _⟩
    have hR : qRet G m_L_law (fun v _ => v = some (.int 1)) (fun k => if k = 0 then b else t) 0 p l e room_1 s m #[Value.ref b] below meth c (lw_Z below #[Value.ref b] s) := by
      intro pc ins v M2 ad2 H locs lsA hd2 hrk hq g1 g0 g2 g3 hP2 hS
      subst hq
      rcases hrk with ⟨x, rfl, hv, hx2⟩ | ⟨x, rfl, hv, hx2⟩ | ⟨w, rfl, hv, hw, C, hC⟩ | ⟨rfl, hv, hx2⟩
      · refine va_forget (fun q hq => by subst hG; exact hS.2.2 q hq) ?_
        exact lw_ret hx hb hr hlocks hd2
      · cases hv
      · rw [show qRt m_L_law = some .boolean from rfl] at hC
        cases hC
      · cases hv
    have hl := lv_entry ([.ref b]) (n := 4) (Nat.le_of_ble_eq_true rfl)
    rw [lg_entry_eq]
    refine q_js hF ok_L_law hR (q_met G l d) hJ (Nat.zero_le _) (Nat.zero_le _) (fun h => by cases h) (Nat.le_refl _) (fun k => if k = 0 then b else t) (fun _ _ => rfl) (fun h => rfl) s.heap [] _ hl ?_ va_S.rf
    subst hG
    exact ⟨fun k q h => by simp [qW, qM0] at h, ⟨fun i j x y h => by simp [qW, qM0] at h, fun k q h => by simp [qW, qM0] at h⟩, rfl, rfl, rfl, rfl, rfl, fun k f x h => by cases h⟩
