/-! facts of the classes, and of a row of the tables -/
def qTy (ci : Nat) : Nat → FieldType := ([tyX0, tyX1, tyX2, tyX3, tyX4, tyX5, tyX6, tyX7, tyX8, tyX9, tyX10, tyX11, tyX12] : List (Nat → FieldType)).getD ci tyX0
def qTok (ci k : Nat) : Bool := match qTf ci k, qTy ci k with
  | 0, .int => true
  | 1, .boolean => true
  | 2, .object _ => true
  | 2, .array _ => true
  | _, _ => false
def qClsOK (ci : Nat) : Prop := vwCl[ci]? = some (qCls ci) ∧ (∀ w ∈ u_ws (qCls ci).1 (qCls ci).2.1 (qCls ci).2.2, w ∈ qTbl) ∧ (qCls ci).2.2 = qNf ci ∧ (∀ a, a < (qCls ci).2.2 → ∀ b, b < (qCls ci).2.2 → a ≠ b → ((qCls ci).2.1 a).2.1 ≠ ((qCls ci).2.1 b).2.1) ∧ (∀ k, k < (qCls ci).2.2 → parseFieldDescriptor ((qCls ci).2.1 k).2.2.1 = some (qTy ci k)) ∧ (∀ k, k < (qCls ci).2.2 → ((qCls ci).2.1 k).1 = (qCls ci).1 ∧ qTok ci k = true) ∧ (qCls ci).1 = qCn ci
theorem q_cls0 : qClsOK 0 := ⟨rfl, q_lay0, rfl, nmX0, tyX0_ok, by decide +kernel, rfl⟩
theorem q_cls1 : qClsOK 1 := ⟨rfl, q_lay1, rfl, nmX1, tyX1_ok, by decide +kernel, rfl⟩
theorem q_cls2 : qClsOK 2 := ⟨rfl, q_lay2, rfl, nmX2, tyX2_ok, by decide +kernel, rfl⟩
theorem q_cls3 : qClsOK 3 := ⟨rfl, q_lay3, rfl, nmX3, tyX3_ok, by decide +kernel, rfl⟩
theorem q_cls4 : qClsOK 4 := ⟨rfl, q_lay4, rfl, nmX4, tyX4_ok, by decide +kernel, rfl⟩
theorem q_cls5 : qClsOK 5 := ⟨rfl, q_lay5, rfl, nmX5, tyX5_ok, by decide +kernel, rfl⟩
theorem q_cls6 : qClsOK 6 := ⟨rfl, q_lay6, rfl, nmX6, tyX6_ok, by decide +kernel, rfl⟩
theorem q_cls7 : qClsOK 7 := ⟨rfl, q_lay7, rfl, nmX7, tyX7_ok, by decide +kernel, rfl⟩
theorem q_cls8 : qClsOK 8 := ⟨rfl, q_lay8, rfl, nmX8, tyX8_ok, by decide +kernel, rfl⟩
theorem q_cls9 : qClsOK 9 := ⟨rfl, q_lay9, rfl, nmX9, tyX9_ok, by decide +kernel, rfl⟩
theorem q_cls10 : qClsOK 10 := ⟨rfl, q_lay10, rfl, nmX10, tyX10_ok, by decide +kernel, rfl⟩
theorem q_cls11 : qClsOK 11 := ⟨rfl, q_lay11, rfl, nmX11, tyX11_ok, by decide +kernel, rfl⟩
theorem q_cls12 : qClsOK 12 := ⟨rfl, q_lay12, rfl, nmX12, tyX12_ok, by decide +kernel, rfl⟩
theorem q_cls {ci : Nat} (h : ci < 13) : qClsOK ci := by
  match ci, h with
  | 0, _ => exact q_cls0
  | 1, _ => exact q_cls1
  | 2, _ => exact q_cls2
  | 3, _ => exact q_cls3
  | 4, _ => exact q_cls4
  | 5, _ => exact q_cls5
  | 6, _ => exact q_cls6
  | 7, _ => exact q_cls7
  | 8, _ => exact q_cls8
  | 9, _ => exact q_cls9
  | 10, _ => exact q_cls10
  | 11, _ => exact q_cls11
  | 12, _ => exact q_cls12
theorem qFind_mem : ∀ (b : List (Nat × Instr × Nat)) (pc : Nat) (x : Instr × Nat), qFind b pc = some x → (pc, x) ∈ b := by
  intro b
  induction b with
  | nil => intro pc x h; cases h
  | cons q r ih =>
    intro pc x h
    obtain ⟨i, y⟩ := q
    unfold qFind at h
    cases hb : Nat.beq i pc with
    | true =>
      rw [hb] at h
      cases h
      have := Nat.eq_of_beq_eq_true hb
      subst this
      exact List.mem_cons_self
    | false =>
      rw [hb] at h
      exact List.mem_cons_of_mem _ (ih pc x h)
theorem qFindB_mem : ∀ (l : List (Nat × List (Nat × Instr × Nat))) (pc : Nat) (x : Instr × Nat), qFindB l pc = some x → ∃ b ∈ l, (pc, x) ∈ b.2 := by
  intro l
  induction l with
  | nil => intro pc x h; cases h
  | cons q r ih =>
    intro pc x h
    obtain ⟨i, y⟩ := q
    unfold qFindB at h
    cases hb : Nat.ble pc i with
    | true =>
      rw [hb] at h
      exact ⟨_, List.mem_cons_self, qFind_mem y pc x h⟩
    | false =>
      rw [hb] at h
      obtain ⟨b, h1, h2⟩ := ih pc x h
      exact ⟨b, List.mem_cons_of_mem _ h1, h2⟩
theorem q_chk {T : qT} (hT : qOKm T = true) {pc : Nat} {ins : Instr} {len : Nat} (h : qFindB (qBl T) pc = some (ins, len)) : qChk T (pc, ins, len) = true := by
  obtain ⟨b, h1, h2⟩ := qFindB_mem _ _ _ h
  unfold qOKm at hT
  simp only [Bool.and_eq_true] at hT
  exact List.all_eq_true.mp (List.all_eq_true.mp hT.1 b h1) _ h2
theorem q_dec {T : qT} {pc : Nat} {ins : Instr} {len : Nat} (hk : qChk T (pc, ins, len) = true) : ∃ raw, qRaw (qOc T) pc ins = some raw ∧ decode (qB T) pc = .ok (raw, len) ∧ len = qIl ins len ∧ qEx T ins = true := by
  unfold qChk at hk
  dsimp only at hk
  cases hr : qRaw (qOc T) pc ins with
  | none => rw [hr] at hk; cases hk
  | some raw =>
    rw [hr] at hk
    simp only [Bool.and_eq_true, decide_eq_true_eq] at hk
    exact ⟨raw, rfl, hk.1, Nat.eq_of_beq_eq_true hk.2.1, hk.2.2⟩
theorem q_dec1 {T : qT} {pc : Nat} {ins raw : Instr} {len : Nat} (n : Nat) (hk : qChk T (pc, ins, len) = true) (hr : qRaw (qOc T) pc ins = some raw) (hl : qIl ins len = n) : decode (qB T) pc = .ok (raw, n) ∧ len = n ∧ qEx T ins = true := by
  obtain ⟨raw', h1, h2, h3, h4⟩ := q_dec hk
  have e : raw = raw' := Option.some.inj (hr.symm.trans h1)
  have e2 : len = n := h3.trans hl
  rw [e, ← e2]
  exact ⟨h2, rfl, h4⟩
theorem q_dec2 {T : qT} {pc : Nat} {ins : Instr} {len : Nat} (n : Nat) {o : Option Nat} {f : Nat → Instr} (hk : qChk T (pc, ins, len) = true) (hr : qRaw (qOc T) pc ins = o.map f) (hl : qIl ins len = n) : ∃ x, o = some x ∧ decode (qB T) pc = .ok (f x, n) ∧ len = n ∧ qEx T ins = true := by
  obtain ⟨raw', h1, h2, h3, h4⟩ := q_dec hk
  have e2 : len = n := h3.trans hl
  cases o with
  | none => rw [hr] at h1; cases h1
  | some x =>
    rw [hr] at h1
    have e : f x = raw' := Option.some.inj h1
    rw [← e, e2] at h2
    exact ⟨x, rfl, h2, e2, h4⟩
theorem q_tgt {pc : Nat} {t : Int} (h : decide (0 ≤ t) = true) : (pc : Int) + (t - pc) = (t.toNat : Int) := by
  have := of_decide_eq_true h
  omega
/-! a method's frame -/
def qRm (T : qT) (d : Nat) : Room := { frames := d, cells := qMc T, slots := qMs T, locals := 40 * d }
def qWs (T : qT) : List Cond := .code (qY T) (qB T) (qLo T) (qRt T) :: qTbl
def qFr (G : qCx) (T : qT) (d : Nat) (p : Program) (R : Room) (s : State) (m : MethodId) (args : Array Value) (meth : Method) (c : Code) : Prop :=
  p.tables.exec = Jvm.exec ∧ c.code = qB T ∧ c.maxLocals = qLo T ∧ meth.sig.returnType = qRt T ∧ meth.locks = false ∧ ((qY T).name = "<init>" → meth.name = "<init>") ∧ s.vm.findClass (qCn (qOc T)) = some m.cls ∧ (∀ w ∈ qTbl, w.before args s = true) ∧ qOn G s ∧ (d + 1 ≤ R.frames ∧ 40 * (d + 1) ≤ R.locals ∧ qMc T ≤ R.cells ∧ qMs T ≤ R.slots) ∧ G.2.2.1 ≤ s.heap.size
/-- from a state of the plain machine the frame comes to an end with Qf; ad0, n0: the addresses and the number of cells at the frame's start -/
def qS (G : qCx) (T : qT) (ad0 : Nat → Nat) (n0 : Nat) (p : Program) (l : Launch) (e : Env) (R : Room) (s : State) (m : MethodId) (args : Array Value) (below : List Frame) (meth : Method) (c : Code) (Qf : State → Prop) : qX := fun pc ls st uc us M =>
  uc ≤ qMc T → us ≤ qMs T → (qPh T = true → qStat M) → n0 ≤ M.1 → ∀ ad : Nat → Nat, (∀ k, k < n0 + 2 → ad k = ad0 k) → (qMc T = 0 → ad = ad0) → ∀ (H : Heap) (locs : List Loc) (lsA : Array Slot), lv_has lsA (qLo T) (qLs ad ls) → qRep G ad M H → va_S (qAr G) s.heap H locs →
    W p l e R s m args below meth c H locs uc us Qf (F0 m pc lsA (st.map (qV ad)))
def qRk (T : qT) (ins : Instr) (v : Option Value) : Prop :=
  (∃ x, ins = .ireturn ∧ v = some (.int x) ∧ (qRt T = some .int ∨ (qRt T = some .boolean ∧ (x = 0 ∨ x = 1)))) ∨ (∃ x, ins = .lreturn ∧ v = some (.long x) ∧ qRt T = some .long) ∨
  (∃ w, ins = .areturn ∧ v = some w ∧ (w = .null ∨ ∃ a, w = .ref a) ∧ ∃ C, qRt T = some (.object C)) ∨ (ins = .return_ ∧ v = none ∧ qRt T = none)
/-- what a method's end must give -/
def qRet (G : qCx) (T : qT) (Q : qP) (ad0 : Nat → Nat) (n0 : Nat) (p : Program) (l : Launch) (e : Env) (R : Room) (s : State) (m : MethodId) (args : Array Value) (below : List Frame) (meth : Method) (c : Code) (Qf : State → Prop) : Prop :=
  ∀ (pc : Nat) (ins : Instr) (v : Option Value) (M : qM) (ad : Nat → Nat) (H : Heap) (locs : List Loc) (lsA : Array Slot), decode (qB T) pc = .ok (ins, 1) → qRk T ins v → Q v M → n0 ≤ M.1 → (qPh T = true → qStat M) → (∀ k, k < n0 + 2 → ad k = ad0 k) → (qMc T = 0 → ad = ad0) → qRep G ad M H → va_S (qAr G) s.heap H locs →
    W p l e R s m args below meth c H locs (qMc T) (qMs T) Qf (F0 m pc lsA ((v.map (qV ad)).toList))
/-- a method's contract -/
def qPc (G : qCx) (T : qT) (ad : Nat → Nat) (as : List Value) (M : qM) : Array Value → State → Prop := va_Pc (as.map (qV ad)) (fun U => qRep G ad M U.heap ∧ qOn G U ∧ (qPh T = true → qStat M) ∧ G.2.2.1 ≤ U.heap.size)
def qQc (G : qCx) (T : qT) (Q : qP) (ad0 : Nat → Nat) (n0 : Nat) : Array Value → State → Outcome → State → Prop := fun _ st oc t =>
  (∃ (v : Option Value) (M : qM) (ad : Nat → Nat), oc = .returned (v.map (qV ad)) ∧ Q v M ∧ (qPh T = true → qStat M) ∧ n0 ≤ M.1 ∧ (∀ k, k < n0 + 2 → ad k = ad0 k) ∧ (qMc T = 0 → ad = ad0) ∧ qRep G ad M t.heap) ∧ va_F (qAr G) st t
def qHc (G : qCx) (l : Launch) (d : Nat) (cs : qC) : Prop := ∀ (j : Nat) (as : List Value) (M : qM) (Q : qP) (ad : Nat → Nat), cs j as M Q → j < qAll.length ∧ Met l (qY (qTab j)) (qWs (qTab j)) (qRm (qTab j) d) (qPc G (qTab j) ad as M) (qQc G (qTab j) Q ad M.1) (qMc (qTab j)) (qMs (qTab j)) (qAr G)
theorem qTab_ok {j : Nat} (h : j < qAll.length) : qOKm (qTab j) = true := by
  have : qTab j = qAll[j] := by simp [qTab, List.getD_eq_getElem?_getD, h]
  rw [this]
  exact qAll_ok _ (List.getElem_mem h)
section QSTEP
variable {G : qCx} {T : qT} {ad0 : Nat → Nat} {n0 d : Nat} {p : Program} {l : Launch} {e : Env} {R : Room} {s : State} {m : MethodId} {args : Array Value} {below : List Frame} {meth : Method} {c : Code} {Qf : State → Prop}
variable {pc : Nat} {ls : List (Nat × Value)} {st : List Value} {uc us : Nat} {M : qM}

theorem qs_iconst {n : Int} {len : Nat} (hF : qFr G T d p R s m args meth c) {X : qX} (hX : ∀ pc ls st uc us M, X pc ls st uc us M → qS G T ad0 n0 p l e R s m args below meth c Qf pc ls st uc us M) (hk : qChk T (pc, .iconst n, len) = true) (h : X (pc + len) ls (.int (Int32.ofInt n) :: st) uc us M) : qS G T ad0 n0 p l e R s m args below meth c Qf pc ls st uc us M := by
  obtain ⟨hd, rfl, -⟩ := q_dec1 1 hk rfl rfl
  intro h1 h2 h3 h4 ad h5 h6 H locs lsA hl hP hS
  exact lv_iconst hF.1 hF.2.1 hd rfl (hX _ _ _ _ _ _ h h1 h2 h3 h4 ad h5 h6 H locs lsA hl hP hS)
theorem qs_bipush {n : Int} {len : Nat} (hF : qFr G T d p R s m args meth c) {X : qX} (hX : ∀ pc ls st uc us M, X pc ls st uc us M → qS G T ad0 n0 p l e R s m args below meth c Qf pc ls st uc us M) (hk : qChk T (pc, .bipush n, len) = true) (h : X (pc + len) ls (.int (Int32.ofInt n) :: st) uc us M) : qS G T ad0 n0 p l e R s m args below meth c Qf pc ls st uc us M := by
  obtain ⟨hd, rfl, hex⟩ := q_dec1 2 hk rfl rfl
  intro h1 h2 h3 h4 ad h5 h6 H locs lsA hl hP hS
  exact lv_bipush hF.1 hF.2.1 hd (of_decide_eq_true hex) (hX _ _ _ _ _ _ h h1 h2 h3 h4 ad h5 h6 H locs lsA hl hP hS)
theorem qs_sipush {n : Int} {len : Nat} (hF : qFr G T d p R s m args meth c) {X : qX} (hX : ∀ pc ls st uc us M, X pc ls st uc us M → qS G T ad0 n0 p l e R s m args below meth c Qf pc ls st uc us M) (hk : qChk T (pc, .sipush n, len) = true) (h : X (pc + len) ls (.int (Int32.ofInt n) :: st) uc us M) : qS G T ad0 n0 p l e R s m args below meth c Qf pc ls st uc us M := by
  obtain ⟨hd, rfl, hex⟩ := q_dec1 3 hk rfl rfl
  intro h1 h2 h3 h4 ad h5 h6 H locs lsA hl hP hS
  exact lv_sipush hF.1 hF.2.1 hd (of_decide_eq_true hex) (hX _ _ _ _ _ _ h h1 h2 h3 h4 ad h5 h6 H locs lsA hl hP hS)
theorem qs_lconst {n : Fin 2} {len : Nat} (hF : qFr G T d p R s m args meth c) {X : qX} (hX : ∀ pc ls st uc us M, X pc ls st uc us M → qS G T ad0 n0 p l e R s m args below meth c Qf pc ls st uc us M) (hk : qChk T (pc, .lconst n, len) = true) (h : X (pc + len) ls (.long (Int64.ofNat n.val) :: st) uc us M) : qS G T ad0 n0 p l e R s m args below meth c Qf pc ls st uc us M := by
  obtain ⟨hd, rfl, -⟩ := q_dec1 1 hk rfl rfl
  intro h1 h2 h3 h4 ad h5 h6 H locs lsA hl hP hS
  exact lv_lconst hF.1 hF.2.1 hd rfl (hX _ _ _ _ _ _ h h1 h2 h3 h4 ad h5 h6 H locs lsA hl hP hS)
theorem qs_null  {len : Nat} (hF : qFr G T d p R s m args meth c) {X : qX} (hX : ∀ pc ls st uc us M, X pc ls st uc us M → qS G T ad0 n0 p l e R s m args below meth c Qf pc ls st uc us M) (hk : qChk T (pc, .aconst_null, len) = true) (h : X (pc + len) ls (.null :: st) uc us M) : qS G T ad0 n0 p l e R s m args below meth c Qf pc ls st uc us M := by
  obtain ⟨hd, rfl, -⟩ := q_dec1 1 hk rfl rfl
  intro h1 h2 h3 h4 ad h5 h6 H locs lsA hl hP hS
  exact lv_null hF.1 hF.2.1 hd (hX _ _ _ _ _ _ h h1 h2 h3 h4 ad h5 h6 H locs lsA hl hP hS)
theorem qs_ldc {n : Nat} {len : Nat} (hF : qFr G T d p R s m args meth c) {X : qX} (hX : ∀ pc ls st uc us M, X pc ls st uc us M → qS G T ad0 n0 p l e R s m args below meth c Qf pc ls st uc us M) (hk : qChk T (pc, .ldc n, len) = true) (h : X (pc + len) ls (.int (Int32.ofNat n) :: st) uc us M) : qS G T ad0 n0 p l e R s m args below meth c Qf pc ls st uc us M := by
  obtain ⟨x, hx, hd, rfl, -⟩ := q_dec2 2 hk rfl rfl
  intro h1 h2 h3 h4 ad h5 h6 H locs lsA hl hP hS
  exact lv_ldc hF.1 hF.2.1 (own := qCn (qOc T)) hF.2.2.2.2.2.2.1 (hF.2.2.2.2.2.2.2.1 _ (q_ld (qOc T, n, x) (qIx_mem _ _ _ _ hx))) hd (hX _ _ _ _ _ _ h h1 h2 h3 h4 ad h5 h6 H locs lsA hl hP hS)
theorem qs_ldc_w {n : Nat} {len : Nat} (hF : qFr G T d p R s m args meth c) {X : qX} (hX : ∀ pc ls st uc us M, X pc ls st uc us M → qS G T ad0 n0 p l e R s m args below meth c Qf pc ls st uc us M) (hk : qChk T (pc, .ldc_w n, len) = true) (h : X (pc + len) ls (.int (Int32.ofNat n) :: st) uc us M) : qS G T ad0 n0 p l e R s m args below meth c Qf pc ls st uc us M := by
  obtain ⟨x, hx, hd, rfl, -⟩ := q_dec2 3 hk rfl rfl
  intro h1 h2 h3 h4 ad h5 h6 H locs lsA hl hP hS
  exact lv_ldcw hF.1 hF.2.1 (own := qCn (qOc T)) hF.2.2.2.2.2.2.1 (hF.2.2.2.2.2.2.2.1 _ (q_ld (qOc T, n, x) (qIx_mem _ _ _ _ hx))) hd (hX _ _ _ _ _ _ h h1 h2 h3 h4 ad h5 h6 H locs lsA hl hP hS)
theorem qs_ldc2_w {n : Nat} {len : Nat} (hF : qFr G T d p R s m args meth c) {X : qX} (hX : ∀ pc ls st uc us M, X pc ls st uc us M → qS G T ad0 n0 p l e R s m args below meth c Qf pc ls st uc us M) (hk : qChk T (pc, .ldc2_w n, len) = true) (h : X (pc + len) ls (.long (Int64.ofNat n) :: st) uc us M) : qS G T ad0 n0 p l e R s m args below meth c Qf pc ls st uc us M := by
  obtain ⟨x, hx, hd, rfl, -⟩ := q_dec2 3 hk rfl rfl
  intro h1 h2 h3 h4 ad h5 h6 H locs lsA hl hP hS
  exact lv_ldc2 hF.1 hF.2.1 (own := qCn (qOc T)) hF.2.2.2.2.2.2.1 (hF.2.2.2.2.2.2.2.1 _ (q_ll (qOc T, n, x) (qIx_mem _ _ _ _ hx))) hd (hX _ _ _ _ _ _ h h1 h2 h3 h4 ad h5 h6 H locs lsA hl hP hS)
theorem qs_iload {k : Nat} {len : Nat} (hF : qFr G T d p R s m args meth c) {X : qX} (hX : ∀ pc ls st uc us M, X pc ls st uc us M → qS G T ad0 n0 p l e R s m args below meth c Qf pc ls st uc us M) (hk : qChk T (pc, .iload k, len) = true) (h : qLdI ls k fun x => X (pc + len) ls (.int x :: st) uc us M) : qS G T ad0 n0 p l e R s m args below meth c Qf pc ls st uc us M := by
  obtain ⟨hd, rfl, -⟩ := q_dec1 2 hk rfl rfl
  obtain ⟨x, hx, h⟩ := qLdI_of h
  intro h1 h2 h3 h4 ad h5 h6 H locs lsA hl hP hS
  exact lv_iload hF.1 hF.2.1 hd (qLk_at hl hx) (hX _ _ _ _ _ _ h h1 h2 h3 h4 ad h5 h6 H locs lsA hl hP hS)
theorem qs_iload_n {k : Fin 4} {len : Nat} (hF : qFr G T d p R s m args meth c) {X : qX} (hX : ∀ pc ls st uc us M, X pc ls st uc us M → qS G T ad0 n0 p l e R s m args below meth c Qf pc ls st uc us M) (hk : qChk T (pc, .iload_n k, len) = true) (h : qLdI ls k.val fun x => X (pc + len) ls (.int x :: st) uc us M) : qS G T ad0 n0 p l e R s m args below meth c Qf pc ls st uc us M := by
  obtain ⟨hd, rfl, -⟩ := q_dec1 1 hk rfl rfl
  obtain ⟨x, hx, h⟩ := qLdI_of h
  intro h1 h2 h3 h4 ad h5 h6 H locs lsA hl hP hS
  exact lv_iload_n hF.1 hF.2.1 hd rfl (qLk_at hl hx) (hX _ _ _ _ _ _ h h1 h2 h3 h4 ad h5 h6 H locs lsA hl hP hS)
theorem qs_lload {k : Nat} {len : Nat} (hF : qFr G T d p R s m args meth c) {X : qX} (hX : ∀ pc ls st uc us M, X pc ls st uc us M → qS G T ad0 n0 p l e R s m args below meth c Qf pc ls st uc us M) (hk : qChk T (pc, .lload k, len) = true) (h : qLdL ls k fun x => X (pc + len) ls (.long x :: st) uc us M) : qS G T ad0 n0 p l e R s m args below meth c Qf pc ls st uc us M := by
  obtain ⟨hd, rfl, -⟩ := q_dec1 2 hk rfl rfl
  obtain ⟨x, hx, h⟩ := qLdL_of h
  intro h1 h2 h3 h4 ad h5 h6 H locs lsA hl hP hS
  exact lv_lload hF.1 hF.2.1 hd (qLk_at hl hx) (hX _ _ _ _ _ _ h h1 h2 h3 h4 ad h5 h6 H locs lsA hl hP hS)
theorem qs_lload_n {k : Fin 4} {len : Nat} (hF : qFr G T d p R s m args meth c) {X : qX} (hX : ∀ pc ls st uc us M, X pc ls st uc us M → qS G T ad0 n0 p l e R s m args below meth c Qf pc ls st uc us M) (hk : qChk T (pc, .lload_n k, len) = true) (h : qLdL ls k.val fun x => X (pc + len) ls (.long x :: st) uc us M) : qS G T ad0 n0 p l e R s m args below meth c Qf pc ls st uc us M := by
  obtain ⟨hd, rfl, -⟩ := q_dec1 1 hk rfl rfl
  obtain ⟨x, hx, h⟩ := qLdL_of h
  intro h1 h2 h3 h4 ad h5 h6 H locs lsA hl hP hS
  exact lv_lload_n hF.1 hF.2.1 hd rfl (qLk_at hl hx) (hX _ _ _ _ _ _ h h1 h2 h3 h4 ad h5 h6 H locs lsA hl hP hS)
theorem qs_aload {k : Nat} {len : Nat} (hF : qFr G T d p R s m args meth c) {X : qX} (hX : ∀ pc ls st uc us M, X pc ls st uc us M → qS G T ad0 n0 p l e R s m args below meth c Qf pc ls st uc us M) (hk : qChk T (pc, .aload k, len) = true) (h : qLdA ls k fun v => X (pc + len) ls (v :: st) uc us M) : qS G T ad0 n0 p l e R s m args below meth c Qf pc ls st uc us M := by
  obtain ⟨hd, rfl, -⟩ := q_dec1 2 hk rfl rfl
  rcases qLdA_of h with ⟨x, hx, h⟩ | ⟨hx, h⟩
  · intro h1 h2 h3 h4 ad h5 h6 H locs lsA hl hP hS
    exact lv_aload hF.1 hF.2.1 hd (qLk_at hl hx) (hX _ _ _ _ _ _ h h1 h2 h3 h4 ad h5 h6 H locs lsA hl hP hS)
  · intro h1 h2 h3 h4 ad h5 h6 H locs lsA hl hP hS
    exact lv_aloadN hF.1 hF.2.1 hd (qLk_at hl hx) (hX _ _ _ _ _ _ h h1 h2 h3 h4 ad h5 h6 H locs lsA hl hP hS)
theorem qs_aload_n {k : Fin 4} {len : Nat} (hF : qFr G T d p R s m args meth c) {X : qX} (hX : ∀ pc ls st uc us M, X pc ls st uc us M → qS G T ad0 n0 p l e R s m args below meth c Qf pc ls st uc us M) (hk : qChk T (pc, .aload_n k, len) = true) (h : qLdA ls k.val fun v => X (pc + len) ls (v :: st) uc us M) : qS G T ad0 n0 p l e R s m args below meth c Qf pc ls st uc us M := by
  obtain ⟨hd, rfl, -⟩ := q_dec1 1 hk rfl rfl
  rcases qLdA_of h with ⟨x, hx, h⟩ | ⟨hx, h⟩
  · intro h1 h2 h3 h4 ad h5 h6 H locs lsA hl hP hS
    exact lv_aload_n hF.1 hF.2.1 hd rfl (qLk_at hl hx) (hX _ _ _ _ _ _ h h1 h2 h3 h4 ad h5 h6 H locs lsA hl hP hS)
  · intro h1 h2 h3 h4 ad h5 h6 H locs lsA hl hP hS
    exact lv_aload_nN hF.1 hF.2.1 hd rfl (qLk_at hl hx) (hX _ _ _ _ _ _ h h1 h2 h3 h4 ad h5 h6 H locs lsA hl hP hS)
theorem qs_istore {k : Nat} {len : Nat} (hF : qFr G T d p R s m args meth c) {X : qX} (hX : ∀ pc ls st uc us M, X pc ls st uc us M → qS G T ad0 n0 p l e R s m args below meth c Qf pc ls st uc us M) (hk : qChk T (pc, .istore k, len) = true) (h : qI1 st fun x r => X (pc + len) ((k, .int x) :: qRm1 k ls) r uc us M) : qS G T ad0 n0 p l e R s m args below meth c Qf pc ls st uc us M := by
  obtain ⟨hd, rfl, hex⟩ := q_dec1 2 hk rfl rfl
  obtain ⟨x, r, rfl, h⟩ := qI1_of h
  intro h1 h2 h3 h4 ad h5 h6 H locs lsA hl hP hS
  exact lv_istore hF.1 hF.2.1 hd hl (q_blt.mp hex) (congrArg ((k, Value.int x) :: ·) (qRm1_map ad k ls)) (fun ls' hl' => hX _ _ _ _ _ _ h h1 h2 h3 h4 ad h5 h6 H locs ls' hl' hP hS)
theorem qs_istore_n {k : Fin 4} {len : Nat} (hF : qFr G T d p R s m args meth c) {X : qX} (hX : ∀ pc ls st uc us M, X pc ls st uc us M → qS G T ad0 n0 p l e R s m args below meth c Qf pc ls st uc us M) (hk : qChk T (pc, .istore_n k, len) = true) (h : qI1 st fun x r => X (pc + len) ((k.val, .int x) :: qRm1 k.val ls) r uc us M) : qS G T ad0 n0 p l e R s m args below meth c Qf pc ls st uc us M := by
  obtain ⟨hd, rfl, hex⟩ := q_dec1 1 hk rfl rfl
  obtain ⟨x, r, rfl, h⟩ := qI1_of h
  intro h1 h2 h3 h4 ad h5 h6 H locs lsA hl hP hS
  exact lv_istore_n hF.1 hF.2.1 hd rfl hl (q_blt.mp hex) (congrArg ((k.val, Value.int x) :: ·) (qRm1_map ad k.val ls)) (fun ls' hl' => hX _ _ _ _ _ _ h h1 h2 h3 h4 ad h5 h6 H locs ls' hl' hP hS)
theorem qs_lstore {k : Nat} {len : Nat} (hF : qFr G T d p R s m args meth c) {X : qX} (hX : ∀ pc ls st uc us M, X pc ls st uc us M → qS G T ad0 n0 p l e R s m args below meth c Qf pc ls st uc us M) (hk : qChk T (pc, .lstore k, len) = true) (h : qL1 st fun x r => X (pc + len) ((k, .long x) :: qRm2 k ls) r uc us M) : qS G T ad0 n0 p l e R s m args below meth c Qf pc ls st uc us M := by
  obtain ⟨hd, rfl, hex⟩ := q_dec1 2 hk rfl rfl
  obtain ⟨x, r, rfl, h⟩ := qL1_of h
  intro h1 h2 h3 h4 ad h5 h6 H locs lsA hl hP hS
  exact lv_lstore hF.1 hF.2.1 hd hl (q_blt.mp hex) (congrArg ((k, Value.long x) :: ·) (qRm2_map ad k ls)) (fun ls' hl' => hX _ _ _ _ _ _ h h1 h2 h3 h4 ad h5 h6 H locs ls' hl' hP hS)
theorem qs_lstore_n {k : Fin 4} {len : Nat} (hF : qFr G T d p R s m args meth c) {X : qX} (hX : ∀ pc ls st uc us M, X pc ls st uc us M → qS G T ad0 n0 p l e R s m args below meth c Qf pc ls st uc us M) (hk : qChk T (pc, .lstore_n k, len) = true) (h : qL1 st fun x r => X (pc + len) ((k.val, .long x) :: qRm2 k.val ls) r uc us M) : qS G T ad0 n0 p l e R s m args below meth c Qf pc ls st uc us M := by
  obtain ⟨hd, rfl, hex⟩ := q_dec1 1 hk rfl rfl
  obtain ⟨x, r, rfl, h⟩ := qL1_of h
  intro h1 h2 h3 h4 ad h5 h6 H locs lsA hl hP hS
  exact lv_lstore_n hF.1 hF.2.1 hd rfl hl (q_blt.mp hex) (congrArg ((k.val, Value.long x) :: ·) (qRm2_map ad k.val ls)) (fun ls' hl' => hX _ _ _ _ _ _ h h1 h2 h3 h4 ad h5 h6 H locs ls' hl' hP hS)
theorem qs_astore {k : Nat} {len : Nat} (hF : qFr G T d p R s m args meth c) {X : qX} (hX : ∀ pc ls st uc us M, X pc ls st uc us M → qS G T ad0 n0 p l e R s m args below meth c Qf pc ls st uc us M) (hk : qChk T (pc, .astore k, len) = true) (h : qAn st (fun r => X (pc + len) ((k, .null) :: qRm1 k ls) r uc us M) fun a r => X (pc + len) ((k, .ref a) :: qRm1 k ls) r uc us M) : qS G T ad0 n0 p l e R s m args below meth c Qf pc ls st uc us M := by
  obtain ⟨hd, rfl, hex⟩ := q_dec1 2 hk rfl rfl
  rcases qAn_of h with ⟨x, r, rfl, h⟩ | ⟨r, rfl, h⟩
  · intro h1 h2 h3 h4 ad h5 h6 H locs lsA hl hP hS
    exact lv_astore hF.1 hF.2.1 hd hl (q_blt.mp hex) (congrArg ((k, Value.ref (ad x)) :: ·) (qRm1_map ad k ls)) (fun ls' hl' => hX _ _ _ _ _ _ h h1 h2 h3 h4 ad h5 h6 H locs ls' hl' hP hS)
  · intro h1 h2 h3 h4 ad h5 h6 H locs lsA hl hP hS
    exact lv_astoreN hF.1 hF.2.1 hd hl (q_blt.mp hex) (congrArg ((k, Value.null) :: ·) (qRm1_map ad k ls)) (fun ls' hl' => hX _ _ _ _ _ _ h h1 h2 h3 h4 ad h5 h6 H locs ls' hl' hP hS)
theorem qs_astore_n {k : Fin 4} {len : Nat} (hF : qFr G T d p R s m args meth c) {X : qX} (hX : ∀ pc ls st uc us M, X pc ls st uc us M → qS G T ad0 n0 p l e R s m args below meth c Qf pc ls st uc us M) (hk : qChk T (pc, .astore_n k, len) = true) (h : qAn st (fun r => X (pc + len) ((k.val, .null) :: qRm1 k.val ls) r uc us M) fun a r => X (pc + len) ((k.val, .ref a) :: qRm1 k.val ls) r uc us M) : qS G T ad0 n0 p l e R s m args below meth c Qf pc ls st uc us M := by
  obtain ⟨hd, rfl, hex⟩ := q_dec1 1 hk rfl rfl
  rcases qAn_of h with ⟨x, r, rfl, h⟩ | ⟨r, rfl, h⟩
  · intro h1 h2 h3 h4 ad h5 h6 H locs lsA hl hP hS
    exact lv_astore_n hF.1 hF.2.1 hd rfl hl (q_blt.mp hex) (congrArg ((k.val, Value.ref (ad x)) :: ·) (qRm1_map ad k.val ls)) (fun ls' hl' => hX _ _ _ _ _ _ h h1 h2 h3 h4 ad h5 h6 H locs ls' hl' hP hS)
  · intro h1 h2 h3 h4 ad h5 h6 H locs lsA hl hP hS
    exact lv_astore_nN hF.1 hF.2.1 hd rfl hl (q_blt.mp hex) (congrArg ((k.val, Value.null) :: ·) (qRm1_map ad k.val ls)) (fun ls' hl' => hX _ _ _ _ _ _ h h1 h2 h3 h4 ad h5 h6 H locs ls' hl' hP hS)
theorem qs_iinc {k : Nat} {n : Int} {len : Nat} (hF : qFr G T d p R s m args meth c) {X : qX} (hX : ∀ pc ls st uc us M, X pc ls st uc us M → qS G T ad0 n0 p l e R s m args below meth c Qf pc ls st uc us M) (hk : qChk T (pc, .iinc k n, len) = true) (h : qLdI ls k fun x => X (pc + len) ((k, .int (x + Int32.ofInt n)) :: qRm1 k ls) st uc us M) : qS G T ad0 n0 p l e R s m args below meth c Qf pc ls st uc us M := by
  obtain ⟨hd, rfl, hex⟩ := q_dec1 3 hk rfl rfl
  obtain ⟨x, hx, h⟩ := qLdI_of h
  intro h1 h2 h3 h4 ad h5 h6 H locs lsA hl hP hS
  have hm : (k, Value.int x) ∈ qLs ad ls := List.mem_map_of_mem (f := fun q : Nat × Value => (q.1, qV ad q.2)) (qLk_mem hx)
  obtain ⟨q, hq⟩ := List.getElem?_of_mem hm
  exact lv_iinc hF.1 hF.2.1 hd hl hq rfl (q_blt.mp hex) (congrArg ((k, Value.int (x + Int32.ofInt n)) :: ·) (qRm1_map ad k ls)) (fun ls' hl' => hX _ _ _ _ _ _ h h1 h2 h3 h4 ad h5 h6 H locs ls' hl' hP hS)
theorem qs_iadd  {len : Nat} (hF : qFr G T d p R s m args meth c) {X : qX} (hX : ∀ pc ls st uc us M, X pc ls st uc us M → qS G T ad0 n0 p l e R s m args below meth c Qf pc ls st uc us M) (hk : qChk T (pc, .iadd, len) = true) (h : qI2 st fun x y r => X (pc + len) ls (.int (x + y) :: r) uc us M) : qS G T ad0 n0 p l e R s m args below meth c Qf pc ls st uc us M := by
  obtain ⟨hd, rfl, -⟩ := q_dec1 1 hk rfl rfl
  obtain ⟨x, y, r, rfl, h⟩ := qI2_of h
  intro h1 h2 h3 h4 ad h5 h6 H locs lsA hl hP hS
  exact lv_iadd hF.1 hF.2.1 hd (hX _ _ _ _ _ _ h h1 h2 h3 h4 ad h5 h6 H locs lsA hl hP hS)
theorem qs_isub  {len : Nat} (hF : qFr G T d p R s m args meth c) {X : qX} (hX : ∀ pc ls st uc us M, X pc ls st uc us M → qS G T ad0 n0 p l e R s m args below meth c Qf pc ls st uc us M) (hk : qChk T (pc, .isub, len) = true) (h : qI2 st fun x y r => X (pc + len) ls (.int (x - y) :: r) uc us M) : qS G T ad0 n0 p l e R s m args below meth c Qf pc ls st uc us M := by
  obtain ⟨hd, rfl, -⟩ := q_dec1 1 hk rfl rfl
  obtain ⟨x, y, r, rfl, h⟩ := qI2_of h
  intro h1 h2 h3 h4 ad h5 h6 H locs lsA hl hP hS
  exact lv_isub hF.1 hF.2.1 hd (hX _ _ _ _ _ _ h h1 h2 h3 h4 ad h5 h6 H locs lsA hl hP hS)
theorem qs_imul  {len : Nat} (hF : qFr G T d p R s m args meth c) {X : qX} (hX : ∀ pc ls st uc us M, X pc ls st uc us M → qS G T ad0 n0 p l e R s m args below meth c Qf pc ls st uc us M) (hk : qChk T (pc, .imul, len) = true) (h : qI2 st fun x y r => X (pc + len) ls (.int (x * y) :: r) uc us M) : qS G T ad0 n0 p l e R s m args below meth c Qf pc ls st uc us M := by
  obtain ⟨hd, rfl, -⟩ := q_dec1 1 hk rfl rfl
  obtain ⟨x, y, r, rfl, h⟩ := qI2_of h
  intro h1 h2 h3 h4 ad h5 h6 H locs lsA hl hP hS
  exact lv_imul hF.1 hF.2.1 hd (hX _ _ _ _ _ _ h h1 h2 h3 h4 ad h5 h6 H locs lsA hl hP hS)
theorem qs_iand  {len : Nat} (hF : qFr G T d p R s m args meth c) {X : qX} (hX : ∀ pc ls st uc us M, X pc ls st uc us M → qS G T ad0 n0 p l e R s m args below meth c Qf pc ls st uc us M) (hk : qChk T (pc, .iand, len) = true) (h : qI2 st fun x y r => X (pc + len) ls (.int (x &&& y) :: r) uc us M) : qS G T ad0 n0 p l e R s m args below meth c Qf pc ls st uc us M := by
  obtain ⟨hd, rfl, -⟩ := q_dec1 1 hk rfl rfl
  obtain ⟨x, y, r, rfl, h⟩ := qI2_of h
  intro h1 h2 h3 h4 ad h5 h6 H locs lsA hl hP hS
  exact lv_iand hF.1 hF.2.1 hd (hX _ _ _ _ _ _ h h1 h2 h3 h4 ad h5 h6 H locs lsA hl hP hS)
theorem qs_ior  {len : Nat} (hF : qFr G T d p R s m args meth c) {X : qX} (hX : ∀ pc ls st uc us M, X pc ls st uc us M → qS G T ad0 n0 p l e R s m args below meth c Qf pc ls st uc us M) (hk : qChk T (pc, .ior, len) = true) (h : qI2 st fun x y r => X (pc + len) ls (.int (x ||| y) :: r) uc us M) : qS G T ad0 n0 p l e R s m args below meth c Qf pc ls st uc us M := by
  obtain ⟨hd, rfl, -⟩ := q_dec1 1 hk rfl rfl
  obtain ⟨x, y, r, rfl, h⟩ := qI2_of h
  intro h1 h2 h3 h4 ad h5 h6 H locs lsA hl hP hS
  exact lv_ior hF.1 hF.2.1 hd (hX _ _ _ _ _ _ h h1 h2 h3 h4 ad h5 h6 H locs lsA hl hP hS)
theorem qs_ixor  {len : Nat} (hF : qFr G T d p R s m args meth c) {X : qX} (hX : ∀ pc ls st uc us M, X pc ls st uc us M → qS G T ad0 n0 p l e R s m args below meth c Qf pc ls st uc us M) (hk : qChk T (pc, .ixor, len) = true) (h : qI2 st fun x y r => X (pc + len) ls (.int (x ^^^ y) :: r) uc us M) : qS G T ad0 n0 p l e R s m args below meth c Qf pc ls st uc us M := by
  obtain ⟨hd, rfl, -⟩ := q_dec1 1 hk rfl rfl
  obtain ⟨x, y, r, rfl, h⟩ := qI2_of h
  intro h1 h2 h3 h4 ad h5 h6 H locs lsA hl hP hS
  exact lv_ixor hF.1 hF.2.1 hd (hX _ _ _ _ _ _ h h1 h2 h3 h4 ad h5 h6 H locs lsA hl hP hS)
theorem qs_ishl  {len : Nat} (hF : qFr G T d p R s m args meth c) {X : qX} (hX : ∀ pc ls st uc us M, X pc ls st uc us M → qS G T ad0 n0 p l e R s m args below meth c Qf pc ls st uc us M) (hk : qChk T (pc, .ishl, len) = true) (h : qI2 st fun x y r => X (pc + len) ls (.int (x <<< (y &&& 31)) :: r) uc us M) : qS G T ad0 n0 p l e R s m args below meth c Qf pc ls st uc us M := by
  obtain ⟨hd, rfl, -⟩ := q_dec1 1 hk rfl rfl
  obtain ⟨x, y, r, rfl, h⟩ := qI2_of h
  intro h1 h2 h3 h4 ad h5 h6 H locs lsA hl hP hS
  exact lv_ishl hF.1 hF.2.1 hd (hX _ _ _ _ _ _ h h1 h2 h3 h4 ad h5 h6 H locs lsA hl hP hS)
theorem qs_ishr  {len : Nat} (hF : qFr G T d p R s m args meth c) {X : qX} (hX : ∀ pc ls st uc us M, X pc ls st uc us M → qS G T ad0 n0 p l e R s m args below meth c Qf pc ls st uc us M) (hk : qChk T (pc, .ishr, len) = true) (h : qI2 st fun x y r => X (pc + len) ls (.int (x >>> (y &&& 31)) :: r) uc us M) : qS G T ad0 n0 p l e R s m args below meth c Qf pc ls st uc us M := by
  obtain ⟨hd, rfl, -⟩ := q_dec1 1 hk rfl rfl
  obtain ⟨x, y, r, rfl, h⟩ := qI2_of h
  intro h1 h2 h3 h4 ad h5 h6 H locs lsA hl hP hS
  exact lv_ishr hF.1 hF.2.1 hd (hX _ _ _ _ _ _ h h1 h2 h3 h4 ad h5 h6 H locs lsA hl hP hS)
theorem qs_iushr  {len : Nat} (hF : qFr G T d p R s m args meth c) {X : qX} (hX : ∀ pc ls st uc us M, X pc ls st uc us M → qS G T ad0 n0 p l e R s m args below meth c Qf pc ls st uc us M) (hk : qChk T (pc, .iushr, len) = true) (h : qI2 st fun x y r => X (pc + len) ls (.int ((x.toUInt32 >>> (y.toUInt32 &&& Int32.toUInt32 31)).toInt32) :: r) uc us M) : qS G T ad0 n0 p l e R s m args below meth c Qf pc ls st uc us M := by
  obtain ⟨hd, rfl, -⟩ := q_dec1 1 hk rfl rfl
  obtain ⟨x, y, r, rfl, h⟩ := qI2_of h
  intro h1 h2 h3 h4 ad h5 h6 H locs lsA hl hP hS
  exact lv_iushr hF.1 hF.2.1 hd rfl (hX _ _ _ _ _ _ h h1 h2 h3 h4 ad h5 h6 H locs lsA hl hP hS)
theorem qs_ladd  {len : Nat} (hF : qFr G T d p R s m args meth c) {X : qX} (hX : ∀ pc ls st uc us M, X pc ls st uc us M → qS G T ad0 n0 p l e R s m args below meth c Qf pc ls st uc us M) (hk : qChk T (pc, .ladd, len) = true) (h : qL2 st fun x y r => X (pc + len) ls (.long (x + y) :: r) uc us M) : qS G T ad0 n0 p l e R s m args below meth c Qf pc ls st uc us M := by
  obtain ⟨hd, rfl, -⟩ := q_dec1 1 hk rfl rfl
  obtain ⟨x, y, r, rfl, h⟩ := qL2_of h
  intro h1 h2 h3 h4 ad h5 h6 H locs lsA hl hP hS
  exact lv_ladd hF.1 hF.2.1 hd (hX _ _ _ _ _ _ h h1 h2 h3 h4 ad h5 h6 H locs lsA hl hP hS)
theorem qs_lsub  {len : Nat} (hF : qFr G T d p R s m args meth c) {X : qX} (hX : ∀ pc ls st uc us M, X pc ls st uc us M → qS G T ad0 n0 p l e R s m args below meth c Qf pc ls st uc us M) (hk : qChk T (pc, .lsub, len) = true) (h : qL2 st fun x y r => X (pc + len) ls (.long (x - y) :: r) uc us M) : qS G T ad0 n0 p l e R s m args below meth c Qf pc ls st uc us M := by
  obtain ⟨hd, rfl, -⟩ := q_dec1 1 hk rfl rfl
  obtain ⟨x, y, r, rfl, h⟩ := qL2_of h
  intro h1 h2 h3 h4 ad h5 h6 H locs lsA hl hP hS
  exact lv_lsub hF.1 hF.2.1 hd (hX _ _ _ _ _ _ h h1 h2 h3 h4 ad h5 h6 H locs lsA hl hP hS)
theorem qs_land  {len : Nat} (hF : qFr G T d p R s m args meth c) {X : qX} (hX : ∀ pc ls st uc us M, X pc ls st uc us M → qS G T ad0 n0 p l e R s m args below meth c Qf pc ls st uc us M) (hk : qChk T (pc, .land, len) = true) (h : qL2 st fun x y r => X (pc + len) ls (.long (x &&& y) :: r) uc us M) : qS G T ad0 n0 p l e R s m args below meth c Qf pc ls st uc us M := by
  obtain ⟨hd, rfl, -⟩ := q_dec1 1 hk rfl rfl
  obtain ⟨x, y, r, rfl, h⟩ := qL2_of h
  intro h1 h2 h3 h4 ad h5 h6 H locs lsA hl hP hS
  exact lv_land hF.1 hF.2.1 hd (hX _ _ _ _ _ _ h h1 h2 h3 h4 ad h5 h6 H locs lsA hl hP hS)
theorem qs_lor  {len : Nat} (hF : qFr G T d p R s m args meth c) {X : qX} (hX : ∀ pc ls st uc us M, X pc ls st uc us M → qS G T ad0 n0 p l e R s m args below meth c Qf pc ls st uc us M) (hk : qChk T (pc, .lor, len) = true) (h : qL2 st fun x y r => X (pc + len) ls (.long (x ||| y) :: r) uc us M) : qS G T ad0 n0 p l e R s m args below meth c Qf pc ls st uc us M := by
  obtain ⟨hd, rfl, -⟩ := q_dec1 1 hk rfl rfl
  obtain ⟨x, y, r, rfl, h⟩ := qL2_of h
  intro h1 h2 h3 h4 ad h5 h6 H locs lsA hl hP hS
  exact lv_lor hF.1 hF.2.1 hd (hX _ _ _ _ _ _ h h1 h2 h3 h4 ad h5 h6 H locs lsA hl hP hS)
theorem qs_lshl  {len : Nat} (hF : qFr G T d p R s m args meth c) {X : qX} (hX : ∀ pc ls st uc us M, X pc ls st uc us M → qS G T ad0 n0 p l e R s m args below meth c Qf pc ls st uc us M) (hk : qChk T (pc, .lshl, len) = true) (h : qLI st fun x y r => X (pc + len) ls (.long (x <<< (y.toInt64 &&& 63)) :: r) uc us M) : qS G T ad0 n0 p l e R s m args below meth c Qf pc ls st uc us M := by
  obtain ⟨hd, rfl, -⟩ := q_dec1 1 hk rfl rfl
  obtain ⟨x, y, r, rfl, h⟩ := qLI_of h
  intro h1 h2 h3 h4 ad h5 h6 H locs lsA hl hP hS
  exact lv_lshl hF.1 hF.2.1 hd rfl (hX _ _ _ _ _ _ h h1 h2 h3 h4 ad h5 h6 H locs lsA hl hP hS)
theorem qs_lshr  {len : Nat} (hF : qFr G T d p R s m args meth c) {X : qX} (hX : ∀ pc ls st uc us M, X pc ls st uc us M → qS G T ad0 n0 p l e R s m args below meth c Qf pc ls st uc us M) (hk : qChk T (pc, .lshr, len) = true) (h : qLI st fun x y r => X (pc + len) ls (.long (x >>> (y.toInt64 &&& 63)) :: r) uc us M) : qS G T ad0 n0 p l e R s m args below meth c Qf pc ls st uc us M := by
  obtain ⟨hd, rfl, -⟩ := q_dec1 1 hk rfl rfl
  obtain ⟨x, y, r, rfl, h⟩ := qLI_of h
  intro h1 h2 h3 h4 ad h5 h6 H locs lsA hl hP hS
  exact lv_lshr hF.1 hF.2.1 hd rfl (hX _ _ _ _ _ _ h h1 h2 h3 h4 ad h5 h6 H locs lsA hl hP hS)
theorem qs_lushr  {len : Nat} (hF : qFr G T d p R s m args meth c) {X : qX} (hX : ∀ pc ls st uc us M, X pc ls st uc us M → qS G T ad0 n0 p l e R s m args below meth c Qf pc ls st uc us M) (hk : qChk T (pc, .lushr, len) = true) (h : qLI st fun x y r => X (pc + len) ls (.long ((x.toUInt64 >>> (y.toInt64.toUInt64 &&& Int64.toUInt64 63)).toInt64) :: r) uc us M) : qS G T ad0 n0 p l e R s m args below meth c Qf pc ls st uc us M := by
  obtain ⟨hd, rfl, -⟩ := q_dec1 1 hk rfl rfl
  obtain ⟨x, y, r, rfl, h⟩ := qLI_of h
  intro h1 h2 h3 h4 ad h5 h6 H locs lsA hl hP hS
  exact lv_lushr hF.1 hF.2.1 hd rfl (hX _ _ _ _ _ _ h h1 h2 h3 h4 ad h5 h6 H locs lsA hl hP hS)
theorem qs_lcmp  {len : Nat} (hF : qFr G T d p R s m args meth c) {X : qX} (hX : ∀ pc ls st uc us M, X pc ls st uc us M → qS G T ad0 n0 p l e R s m args below meth c Qf pc ls st uc us M) (hk : qChk T (pc, .lcmp, len) = true) (h : qL2 st fun x y r => X (pc + len) ls (.int (lg_cmp x y) :: r) uc us M) : qS G T ad0 n0 p l e R s m args below meth c Qf pc ls st uc us M := by
  obtain ⟨hd, rfl, -⟩ := q_dec1 1 hk rfl rfl
  obtain ⟨x, y, r, rfl, h⟩ := qL2_of h
  intro h1 h2 h3 h4 ad h5 h6 H locs lsA hl hP hS
  exact W.lcmp hF.1 hF.2.1 hd (hX _ _ _ _ _ _ h h1 h2 h3 h4 ad h5 h6 H locs lsA hl hP hS)
theorem qs_idiv  {len : Nat} (hF : qFr G T d p R s m args meth c) {X : qX} (hX : ∀ pc ls st uc us M, X pc ls st uc us M → qS G T ad0 n0 p l e R s m args below meth c Qf pc ls st uc us M) (hk : qChk T (pc, .idiv, len) = true) (h : qI2 st fun x y r => ¬ y = 0 ∧ X (pc + len) ls (.int (x / y) :: r) uc us M) : qS G T ad0 n0 p l e R s m args below meth c Qf pc ls st uc us M := by
  obtain ⟨hd, rfl, -⟩ := q_dec1 1 hk rfl rfl
  obtain ⟨x, y, r, rfl, hy, h⟩ := qI2_of h
  intro h1 h2 h3 h4 ad h5 h6 H locs lsA hl hP hS
  exact lv_idiv hF.1 hF.2.1 hd hy (hX _ _ _ _ _ _ h h1 h2 h3 h4 ad h5 h6 H locs lsA hl hP hS)
theorem qs_ldiv  {len : Nat} (hF : qFr G T d p R s m args meth c) {X : qX} (hX : ∀ pc ls st uc us M, X pc ls st uc us M → qS G T ad0 n0 p l e R s m args below meth c Qf pc ls st uc us M) (hk : qChk T (pc, .ldiv, len) = true) (h : qL2 st fun x y r => ¬ y = 0 ∧ X (pc + len) ls (.long (x / y) :: r) uc us M) : qS G T ad0 n0 p l e R s m args below meth c Qf pc ls st uc us M := by
  obtain ⟨hd, rfl, -⟩ := q_dec1 1 hk rfl rfl
  obtain ⟨x, y, r, rfl, hy, h⟩ := qL2_of h
  intro h1 h2 h3 h4 ad h5 h6 H locs lsA hl hP hS
  exact lv_ldiv hF.1 hF.2.1 hd hy (hX _ _ _ _ _ _ h h1 h2 h3 h4 ad h5 h6 H locs lsA hl hP hS)
theorem qs_lrem  {len : Nat} (hF : qFr G T d p R s m args meth c) {X : qX} (hX : ∀ pc ls st uc us M, X pc ls st uc us M → qS G T ad0 n0 p l e R s m args below meth c Qf pc ls st uc us M) (hk : qChk T (pc, .lrem, len) = true) (h : qL2 st fun x y r => ¬ y = 0 ∧ X (pc + len) ls (.long (x - x / y * y) :: r) uc us M) : qS G T ad0 n0 p l e R s m args below meth c Qf pc ls st uc us M := by
  obtain ⟨hd, rfl, -⟩ := q_dec1 1 hk rfl rfl
  obtain ⟨x, y, r, rfl, hy, h⟩ := qL2_of h
  intro h1 h2 h3 h4 ad h5 h6 H locs lsA hl hP hS
  exact lv_lrem hF.1 hF.2.1 hd hy (hX _ _ _ _ _ _ h h1 h2 h3 h4 ad h5 h6 H locs lsA hl hP hS)
theorem qs_ineg  {len : Nat} (hF : qFr G T d p R s m args meth c) {X : qX} (hX : ∀ pc ls st uc us M, X pc ls st uc us M → qS G T ad0 n0 p l e R s m args below meth c Qf pc ls st uc us M) (hk : qChk T (pc, .ineg, len) = true) (h : qI1 st fun x r => X (pc + len) ls (.int (-x) :: r) uc us M) : qS G T ad0 n0 p l e R s m args below meth c Qf pc ls st uc us M := by
  obtain ⟨hd, rfl, -⟩ := q_dec1 1 hk rfl rfl
  obtain ⟨x, r, rfl, h⟩ := qI1_of h
  intro h1 h2 h3 h4 ad h5 h6 H locs lsA hl hP hS
  exact lv_ineg hF.1 hF.2.1 hd (hX _ _ _ _ _ _ h h1 h2 h3 h4 ad h5 h6 H locs lsA hl hP hS)
theorem qs_lneg  {len : Nat} (hF : qFr G T d p R s m args meth c) {X : qX} (hX : ∀ pc ls st uc us M, X pc ls st uc us M → qS G T ad0 n0 p l e R s m args below meth c Qf pc ls st uc us M) (hk : qChk T (pc, .lneg, len) = true) (h : qL1 st fun x r => X (pc + len) ls (.long (-x) :: r) uc us M) : qS G T ad0 n0 p l e R s m args below meth c Qf pc ls st uc us M := by
  obtain ⟨hd, rfl, -⟩ := q_dec1 1 hk rfl rfl
  obtain ⟨x, r, rfl, h⟩ := qL1_of h
  intro h1 h2 h3 h4 ad h5 h6 H locs lsA hl hP hS
  exact lv_lneg hF.1 hF.2.1 hd (hX _ _ _ _ _ _ h h1 h2 h3 h4 ad h5 h6 H locs lsA hl hP hS)
theorem qs_i2l  {len : Nat} (hF : qFr G T d p R s m args meth c) {X : qX} (hX : ∀ pc ls st uc us M, X pc ls st uc us M → qS G T ad0 n0 p l e R s m args below meth c Qf pc ls st uc us M) (hk : qChk T (pc, .i2l, len) = true) (h : qI1 st fun x r => X (pc + len) ls (.long (x.toInt64) :: r) uc us M) : qS G T ad0 n0 p l e R s m args below meth c Qf pc ls st uc us M := by
  obtain ⟨hd, rfl, -⟩ := q_dec1 1 hk rfl rfl
  obtain ⟨x, r, rfl, h⟩ := qI1_of h
  intro h1 h2 h3 h4 ad h5 h6 H locs lsA hl hP hS
  exact lv_i2l hF.1 hF.2.1 hd rfl (hX _ _ _ _ _ _ h h1 h2 h3 h4 ad h5 h6 H locs lsA hl hP hS)
theorem qs_l2i  {len : Nat} (hF : qFr G T d p R s m args meth c) {X : qX} (hX : ∀ pc ls st uc us M, X pc ls st uc us M → qS G T ad0 n0 p l e R s m args below meth c Qf pc ls st uc us M) (hk : qChk T (pc, .l2i, len) = true) (h : qL1 st fun x r => X (pc + len) ls (.int (x.toInt32) :: r) uc us M) : qS G T ad0 n0 p l e R s m args below meth c Qf pc ls st uc us M := by
  obtain ⟨hd, rfl, -⟩ := q_dec1 1 hk rfl rfl
  obtain ⟨x, r, rfl, h⟩ := qL1_of h
  intro h1 h2 h3 h4 ad h5 h6 H locs lsA hl hP hS
  exact lv_l2i hF.1 hF.2.1 hd rfl (hX _ _ _ _ _ _ h h1 h2 h3 h4 ad h5 h6 H locs lsA hl hP hS)
theorem qs_i2b  {len : Nat} (hF : qFr G T d p R s m args meth c) {X : qX} (hX : ∀ pc ls st uc us M, X pc ls st uc us M → qS G T ad0 n0 p l e R s m args below meth c Qf pc ls st uc us M) (hk : qChk T (pc, .i2b, len) = true) (h : qI1 st fun x r => X (pc + len) ls (.int (x.toInt8.toInt32) :: r) uc us M) : qS G T ad0 n0 p l e R s m args below meth c Qf pc ls st uc us M := by
  obtain ⟨hd, rfl, -⟩ := q_dec1 1 hk rfl rfl
  obtain ⟨x, r, rfl, h⟩ := qI1_of h
  intro h1 h2 h3 h4 ad h5 h6 H locs lsA hl hP hS
  exact lv_i2b hF.1 hF.2.1 hd rfl (hX _ _ _ _ _ _ h h1 h2 h3 h4 ad h5 h6 H locs lsA hl hP hS)
theorem qs_dup {v : Value} {r : List Value} {len : Nat} (hF : qFr G T d p R s m args meth c) {X : qX} (hX : ∀ pc ls st uc us M, X pc ls st uc us M → qS G T ad0 n0 p l e R s m args below meth c Qf pc ls st uc us M) (hk : qChk T (pc, .dup, len) = true) (h : qIf (!(qC2 v)) (X (pc + len) ls (v :: v :: r) uc us M)) : qS G T ad0 n0 p l e R s m args below meth c Qf pc ls (v :: r) uc us M := by
  obtain ⟨hd, rfl, -⟩ := q_dec1 1 hk rfl rfl
  obtain ⟨hv, h⟩ := qIf_of h
  intro h1 h2 h3 h4 ad h5 h6 H locs lsA hl hP hS
  refine lv_dup (va := qV ad v) (rest := r.map (qV ad)) hF.1 hF.2.1 hd ?_ (hX _ _ _ _ _ _ h h1 h2 h3 h4 ad h5 h6 H locs lsA hl hP hS)
  rw [qV_cat]
  cases v <;> simp_all [qC2, Value.category]
theorem qs_pop {v : Value} {r : List Value} {len : Nat} (hF : qFr G T d p R s m args meth c) {X : qX} (hX : ∀ pc ls st uc us M, X pc ls st uc us M → qS G T ad0 n0 p l e R s m args below meth c Qf pc ls st uc us M) (hk : qChk T (pc, .pop, len) = true) (h : qIf (!(qC2 v)) (X (pc + len) ls r uc us M)) : qS G T ad0 n0 p l e R s m args below meth c Qf pc ls (v :: r) uc us M := by
  obtain ⟨hd, rfl, -⟩ := q_dec1 1 hk rfl rfl
  obtain ⟨hv, h⟩ := qIf_of h
  intro h1 h2 h3 h4 ad h5 h6 H locs lsA hl hP hS
  refine lv_pop (va := qV ad v) (rest := r.map (qV ad)) hF.1 hF.2.1 hd ?_ (hX _ _ _ _ _ _ h h1 h2 h3 h4 ad h5 h6 H locs lsA hl hP hS)
  rw [qV_cat]
  cases v <;> simp_all [qC2, Value.category]
theorem qs_goto {t : Int} {len : Nat} (hF : qFr G T d p R s m args meth c) {X : qX} (hX : ∀ pc ls st uc us M, X pc ls st uc us M → qS G T ad0 n0 p l e R s m args below meth c Qf pc ls st uc us M) (hk : qChk T (pc, .goto t, len) = true) (h : X t.toNat ls st uc us M) : qS G T ad0 n0 p l e R s m args below meth c Qf pc ls st uc us M := by
  obtain ⟨hd, rfl, hex⟩ := q_dec1 3 hk rfl rfl
  intro h1 h2 h3 h4 ad h5 h6 H locs lsA hl hP hS
  exact lv_goto hF.1 hF.2.1 hd (q_tgt hex) (hX _ _ _ _ _ _ h h1 h2 h3 h4 ad h5 h6 H locs lsA hl hP hS)
theorem qs_if_eq {t : Int} {len : Nat} (hF : qFr G T d p R s m args meth c) {X : qX} (hX : ∀ pc ls st uc us M, X pc ls st uc us M → qS G T ad0 n0 p l e R s m args below meth c Qf pc ls st uc us M) (hk : qChk T (pc, .ifCond .eq t, len) = true) (h : qI1 st fun x r => (x = 0 → X t.toNat ls r uc us M) ∧ (¬ x = 0 → X (pc + len) ls r uc us M)) : qS G T ad0 n0 p l e R s m args below meth c Qf pc ls st uc us M := by
  obtain ⟨hd, rfl, hex⟩ := q_dec1 3 hk rfl rfl
  obtain ⟨x, r, rfl, ha, hb⟩ := qI1_of h
  intro h1 h2 h3 h4 ad h5 h6 H locs lsA hl hP hS
  exact lv_if_eq hF.1 hF.2.1 hd (q_tgt hex) (fun hc => hX _ _ _ _ _ _ (ha hc) h1 h2 h3 h4 ad h5 h6 H locs lsA hl hP hS) (fun hc => hX _ _ _ _ _ _ (hb hc) h1 h2 h3 h4 ad h5 h6 H locs lsA hl hP hS)
theorem qs_if_ne {t : Int} {len : Nat} (hF : qFr G T d p R s m args meth c) {X : qX} (hX : ∀ pc ls st uc us M, X pc ls st uc us M → qS G T ad0 n0 p l e R s m args below meth c Qf pc ls st uc us M) (hk : qChk T (pc, .ifCond .ne t, len) = true) (h : qI1 st fun x r => (¬ x = 0 → X t.toNat ls r uc us M) ∧ (x = 0 → X (pc + len) ls r uc us M)) : qS G T ad0 n0 p l e R s m args below meth c Qf pc ls st uc us M := by
  obtain ⟨hd, rfl, hex⟩ := q_dec1 3 hk rfl rfl
  obtain ⟨x, r, rfl, ha, hb⟩ := qI1_of h
  intro h1 h2 h3 h4 ad h5 h6 H locs lsA hl hP hS
  exact lv_if_ne hF.1 hF.2.1 hd (q_tgt hex) (fun hc => hX _ _ _ _ _ _ (ha hc) h1 h2 h3 h4 ad h5 h6 H locs lsA hl hP hS) (fun hc => hX _ _ _ _ _ _ (hb hc) h1 h2 h3 h4 ad h5 h6 H locs lsA hl hP hS)
theorem qs_if_lt {t : Int} {len : Nat} (hF : qFr G T d p R s m args meth c) {X : qX} (hX : ∀ pc ls st uc us M, X pc ls st uc us M → qS G T ad0 n0 p l e R s m args below meth c Qf pc ls st uc us M) (hk : qChk T (pc, .ifCond .lt t, len) = true) (h : qI1 st fun x r => (x < 0 → X t.toNat ls r uc us M) ∧ (¬ x < 0 → X (pc + len) ls r uc us M)) : qS G T ad0 n0 p l e R s m args below meth c Qf pc ls st uc us M := by
  obtain ⟨hd, rfl, hex⟩ := q_dec1 3 hk rfl rfl
  obtain ⟨x, r, rfl, ha, hb⟩ := qI1_of h
  intro h1 h2 h3 h4 ad h5 h6 H locs lsA hl hP hS
  exact lv_if_lt hF.1 hF.2.1 hd (q_tgt hex) (fun hc => hX _ _ _ _ _ _ (ha hc) h1 h2 h3 h4 ad h5 h6 H locs lsA hl hP hS) (fun hc => hX _ _ _ _ _ _ (hb hc) h1 h2 h3 h4 ad h5 h6 H locs lsA hl hP hS)
theorem qs_if_ge {t : Int} {len : Nat} (hF : qFr G T d p R s m args meth c) {X : qX} (hX : ∀ pc ls st uc us M, X pc ls st uc us M → qS G T ad0 n0 p l e R s m args below meth c Qf pc ls st uc us M) (hk : qChk T (pc, .ifCond .ge t, len) = true) (h : qI1 st fun x r => (0 ≤ x → X t.toNat ls r uc us M) ∧ (¬ 0 ≤ x → X (pc + len) ls r uc us M)) : qS G T ad0 n0 p l e R s m args below meth c Qf pc ls st uc us M := by
  obtain ⟨hd, rfl, hex⟩ := q_dec1 3 hk rfl rfl
  obtain ⟨x, r, rfl, ha, hb⟩ := qI1_of h
  intro h1 h2 h3 h4 ad h5 h6 H locs lsA hl hP hS
  exact lv_if_ge hF.1 hF.2.1 hd (q_tgt hex) (fun hc => hX _ _ _ _ _ _ (ha hc) h1 h2 h3 h4 ad h5 h6 H locs lsA hl hP hS) (fun hc => hX _ _ _ _ _ _ (hb hc) h1 h2 h3 h4 ad h5 h6 H locs lsA hl hP hS)
theorem qs_if_gt {t : Int} {len : Nat} (hF : qFr G T d p R s m args meth c) {X : qX} (hX : ∀ pc ls st uc us M, X pc ls st uc us M → qS G T ad0 n0 p l e R s m args below meth c Qf pc ls st uc us M) (hk : qChk T (pc, .ifCond .gt t, len) = true) (h : qI1 st fun x r => (0 < x → X t.toNat ls r uc us M) ∧ (¬ 0 < x → X (pc + len) ls r uc us M)) : qS G T ad0 n0 p l e R s m args below meth c Qf pc ls st uc us M := by
  obtain ⟨hd, rfl, hex⟩ := q_dec1 3 hk rfl rfl
  obtain ⟨x, r, rfl, ha, hb⟩ := qI1_of h
  intro h1 h2 h3 h4 ad h5 h6 H locs lsA hl hP hS
  exact lv_if_gt hF.1 hF.2.1 hd (q_tgt hex) (fun hc => hX _ _ _ _ _ _ (ha hc) h1 h2 h3 h4 ad h5 h6 H locs lsA hl hP hS) (fun hc => hX _ _ _ _ _ _ (hb hc) h1 h2 h3 h4 ad h5 h6 H locs lsA hl hP hS)
theorem qs_if_le {t : Int} {len : Nat} (hF : qFr G T d p R s m args meth c) {X : qX} (hX : ∀ pc ls st uc us M, X pc ls st uc us M → qS G T ad0 n0 p l e R s m args below meth c Qf pc ls st uc us M) (hk : qChk T (pc, .ifCond .le t, len) = true) (h : qI1 st fun x r => (x ≤ 0 → X t.toNat ls r uc us M) ∧ (¬ x ≤ 0 → X (pc + len) ls r uc us M)) : qS G T ad0 n0 p l e R s m args below meth c Qf pc ls st uc us M := by
  obtain ⟨hd, rfl, hex⟩ := q_dec1 3 hk rfl rfl
  obtain ⟨x, r, rfl, ha, hb⟩ := qI1_of h
  intro h1 h2 h3 h4 ad h5 h6 H locs lsA hl hP hS
  exact lv_if_le hF.1 hF.2.1 hd (q_tgt hex) (fun hc => hX _ _ _ _ _ _ (ha hc) h1 h2 h3 h4 ad h5 h6 H locs lsA hl hP hS) (fun hc => hX _ _ _ _ _ _ (hb hc) h1 h2 h3 h4 ad h5 h6 H locs lsA hl hP hS)
theorem qs_icmp_eq {t : Int} {len : Nat} (hF : qFr G T d p R s m args meth c) {X : qX} (hX : ∀ pc ls st uc us M, X pc ls st uc us M → qS G T ad0 n0 p l e R s m args below meth c Qf pc ls st uc us M) (hk : qChk T (pc, .if_icmp .eq t, len) = true) (h : qI2 st fun x y r => (x = y → X t.toNat ls r uc us M) ∧ (¬ x = y → X (pc + len) ls r uc us M)) : qS G T ad0 n0 p l e R s m args below meth c Qf pc ls st uc us M := by
  obtain ⟨hd, rfl, hex⟩ := q_dec1 3 hk rfl rfl
  obtain ⟨x, y, r, rfl, ha, hb⟩ := qI2_of h
  intro h1 h2 h3 h4 ad h5 h6 H locs lsA hl hP hS
  exact lv_icmp_eq hF.1 hF.2.1 hd (q_tgt hex) (fun hc => hX _ _ _ _ _ _ (ha hc) h1 h2 h3 h4 ad h5 h6 H locs lsA hl hP hS) (fun hc => hX _ _ _ _ _ _ (hb hc) h1 h2 h3 h4 ad h5 h6 H locs lsA hl hP hS)
theorem qs_icmp_ne {t : Int} {len : Nat} (hF : qFr G T d p R s m args meth c) {X : qX} (hX : ∀ pc ls st uc us M, X pc ls st uc us M → qS G T ad0 n0 p l e R s m args below meth c Qf pc ls st uc us M) (hk : qChk T (pc, .if_icmp .ne t, len) = true) (h : qI2 st fun x y r => (¬ x = y → X t.toNat ls r uc us M) ∧ (x = y → X (pc + len) ls r uc us M)) : qS G T ad0 n0 p l e R s m args below meth c Qf pc ls st uc us M := by
  obtain ⟨hd, rfl, hex⟩ := q_dec1 3 hk rfl rfl
  obtain ⟨x, y, r, rfl, ha, hb⟩ := qI2_of h
  intro h1 h2 h3 h4 ad h5 h6 H locs lsA hl hP hS
  exact lv_icmp_ne hF.1 hF.2.1 hd (q_tgt hex) (fun hc => hX _ _ _ _ _ _ (ha hc) h1 h2 h3 h4 ad h5 h6 H locs lsA hl hP hS) (fun hc => hX _ _ _ _ _ _ (hb hc) h1 h2 h3 h4 ad h5 h6 H locs lsA hl hP hS)
theorem qs_icmp_lt {t : Int} {len : Nat} (hF : qFr G T d p R s m args meth c) {X : qX} (hX : ∀ pc ls st uc us M, X pc ls st uc us M → qS G T ad0 n0 p l e R s m args below meth c Qf pc ls st uc us M) (hk : qChk T (pc, .if_icmp .lt t, len) = true) (h : qI2 st fun x y r => (x < y → X t.toNat ls r uc us M) ∧ (¬ x < y → X (pc + len) ls r uc us M)) : qS G T ad0 n0 p l e R s m args below meth c Qf pc ls st uc us M := by
  obtain ⟨hd, rfl, hex⟩ := q_dec1 3 hk rfl rfl
  obtain ⟨x, y, r, rfl, ha, hb⟩ := qI2_of h
  intro h1 h2 h3 h4 ad h5 h6 H locs lsA hl hP hS
  exact lv_icmp_lt hF.1 hF.2.1 hd (q_tgt hex) (fun hc => hX _ _ _ _ _ _ (ha hc) h1 h2 h3 h4 ad h5 h6 H locs lsA hl hP hS) (fun hc => hX _ _ _ _ _ _ (hb hc) h1 h2 h3 h4 ad h5 h6 H locs lsA hl hP hS)
theorem qs_icmp_ge {t : Int} {len : Nat} (hF : qFr G T d p R s m args meth c) {X : qX} (hX : ∀ pc ls st uc us M, X pc ls st uc us M → qS G T ad0 n0 p l e R s m args below meth c Qf pc ls st uc us M) (hk : qChk T (pc, .if_icmp .ge t, len) = true) (h : qI2 st fun x y r => (y ≤ x → X t.toNat ls r uc us M) ∧ (¬ y ≤ x → X (pc + len) ls r uc us M)) : qS G T ad0 n0 p l e R s m args below meth c Qf pc ls st uc us M := by
  obtain ⟨hd, rfl, hex⟩ := q_dec1 3 hk rfl rfl
  obtain ⟨x, y, r, rfl, ha, hb⟩ := qI2_of h
  intro h1 h2 h3 h4 ad h5 h6 H locs lsA hl hP hS
  exact lv_icmp_ge hF.1 hF.2.1 hd (q_tgt hex) (fun hc => hX _ _ _ _ _ _ (ha hc) h1 h2 h3 h4 ad h5 h6 H locs lsA hl hP hS) (fun hc => hX _ _ _ _ _ _ (hb hc) h1 h2 h3 h4 ad h5 h6 H locs lsA hl hP hS)
theorem qs_icmp_gt {t : Int} {len : Nat} (hF : qFr G T d p R s m args meth c) {X : qX} (hX : ∀ pc ls st uc us M, X pc ls st uc us M → qS G T ad0 n0 p l e R s m args below meth c Qf pc ls st uc us M) (hk : qChk T (pc, .if_icmp .gt t, len) = true) (h : qI2 st fun x y r => (y < x → X t.toNat ls r uc us M) ∧ (¬ y < x → X (pc + len) ls r uc us M)) : qS G T ad0 n0 p l e R s m args below meth c Qf pc ls st uc us M := by
  obtain ⟨hd, rfl, hex⟩ := q_dec1 3 hk rfl rfl
  obtain ⟨x, y, r, rfl, ha, hb⟩ := qI2_of h
  intro h1 h2 h3 h4 ad h5 h6 H locs lsA hl hP hS
  exact lv_icmp_gt hF.1 hF.2.1 hd (q_tgt hex) (fun hc => hX _ _ _ _ _ _ (ha hc) h1 h2 h3 h4 ad h5 h6 H locs lsA hl hP hS) (fun hc => hX _ _ _ _ _ _ (hb hc) h1 h2 h3 h4 ad h5 h6 H locs lsA hl hP hS)
theorem qs_icmp_le {t : Int} {len : Nat} (hF : qFr G T d p R s m args meth c) {X : qX} (hX : ∀ pc ls st uc us M, X pc ls st uc us M → qS G T ad0 n0 p l e R s m args below meth c Qf pc ls st uc us M) (hk : qChk T (pc, .if_icmp .le t, len) = true) (h : qI2 st fun x y r => (x ≤ y → X t.toNat ls r uc us M) ∧ (¬ x ≤ y → X (pc + len) ls r uc us M)) : qS G T ad0 n0 p l e R s m args below meth c Qf pc ls st uc us M := by
  obtain ⟨hd, rfl, hex⟩ := q_dec1 3 hk rfl rfl
  obtain ⟨x, y, r, rfl, ha, hb⟩ := qI2_of h
  intro h1 h2 h3 h4 ad h5 h6 H locs lsA hl hP hS
  exact lv_icmp_le hF.1 hF.2.1 hd (q_tgt hex) (fun hc => hX _ _ _ _ _ _ (ha hc) h1 h2 h3 h4 ad h5 h6 H locs lsA hl hP hS) (fun hc => hX _ _ _ _ _ _ (hb hc) h1 h2 h3 h4 ad h5 h6 H locs lsA hl hP hS)
theorem qs_ifnull {t : Int} {len : Nat} (hF : qFr G T d p R s m args meth c) {X : qX} (hX : ∀ pc ls st uc us M, X pc ls st uc us M → qS G T ad0 n0 p l e R s m args below meth c Qf pc ls st uc us M) (hk : qChk T (pc, .ifnull t, len) = true) (h : qAn st (fun r => X t.toNat ls r uc us M) fun _ r => X (pc + len) ls r uc us M) : qS G T ad0 n0 p l e R s m args below meth c Qf pc ls st uc us M := by
  obtain ⟨hd, rfl, hex⟩ := q_dec1 3 hk rfl rfl
  rcases qAn_of h with ⟨x, r, rfl, h⟩ | ⟨r, rfl, h⟩
  · intro h1 h2 h3 h4 ad h5 h6 H locs lsA hl hP hS
    exact lv_ifnull hF.1 hF.2.1 hd (hX _ _ _ _ _ _ h h1 h2 h3 h4 ad h5 h6 H locs lsA hl hP hS)
  · intro h1 h2 h3 h4 ad h5 h6 H locs lsA hl hP hS
    exact lv_ifnullN hF.1 hF.2.1 hd (q_tgt hex) (hX _ _ _ _ _ _ h h1 h2 h3 h4 ad h5 h6 H locs lsA hl hP hS)
theorem qs_ifnonnull {t : Int} {len : Nat} (hF : qFr G T d p R s m args meth c) {X : qX} (hX : ∀ pc ls st uc us M, X pc ls st uc us M → qS G T ad0 n0 p l e R s m args below meth c Qf pc ls st uc us M) (hk : qChk T (pc, .ifnonnull t, len) = true) (h : qAn st (fun r => X (pc + len) ls r uc us M) fun _ r => X t.toNat ls r uc us M) : qS G T ad0 n0 p l e R s m args below meth c Qf pc ls st uc us M := by
  obtain ⟨hd, rfl, hex⟩ := q_dec1 3 hk rfl rfl
  rcases qAn_of h with ⟨x, r, rfl, h⟩ | ⟨r, rfl, h⟩
  · intro h1 h2 h3 h4 ad h5 h6 H locs lsA hl hP hS
    exact lv_ifnonnull hF.1 hF.2.1 hd (q_tgt hex) (hX _ _ _ _ _ _ h h1 h2 h3 h4 ad h5 h6 H locs lsA hl hP hS)
  · intro h1 h2 h3 h4 ad h5 h6 H locs lsA hl hP hS
    exact lv_ifnonnullN hF.1 hF.2.1 hd (hX _ _ _ _ _ _ h h1 h2 h3 h4 ad h5 h6 H locs lsA hl hP hS)
end QSTEP
