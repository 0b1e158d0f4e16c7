/-- one instruction -/
def qStep (T : qT) (cs : qC) (Q : qP) (X : qX) (pc : Nat) (ls : List (Nat × Value)) (st : List Value) (uc us : Nat) (M : qM) : Prop :=
  match qFindB (qBl T) pc with
  | none => False
  | some (ins, len) =>
  match ins with
  | .iconst n => X (pc + len) ls (.int (Int32.ofInt n) :: st) uc us M
  | .bipush n => X (pc + len) ls (.int (Int32.ofInt n) :: st) uc us M
  | .sipush n => X (pc + len) ls (.int (Int32.ofInt n) :: st) uc us M
  | .lconst n => X (pc + len) ls (.long (Int64.ofNat n.val) :: st) uc us M
  | .ldc n => X (pc + len) ls (.int (Int32.ofNat n) :: st) uc us M
  | .ldc_w n => X (pc + len) ls (.int (Int32.ofNat n) :: st) uc us M
  | .ldc2_w n => X (pc + len) ls (.long (Int64.ofNat n) :: st) uc us M
  | .aconst_null => X (pc + len) ls (.null :: st) uc us M
  | .iload k => qLdI ls k fun x => X (pc + len) ls (.int x :: st) uc us M
  | .iload_n k => qLdI ls k.val fun x => X (pc + len) ls (.int x :: st) uc us M
  | .lload k => qLdL ls k fun x => X (pc + len) ls (.long x :: st) uc us M
  | .lload_n k => qLdL ls k.val fun x => X (pc + len) ls (.long x :: st) uc us M
  | .aload k => qLdA ls k fun v => X (pc + len) ls (v :: st) uc us M
  | .aload_n k => qLdA ls k.val fun v => X (pc + len) ls (v :: st) uc us M
  | .istore k => qI1 st fun x r => X (pc + len) ((k, .int x) :: qRm1 k ls) r uc us M
  | .istore_n k => qI1 st fun x r => X (pc + len) ((k.val, .int x) :: qRm1 k.val ls) r uc us M
  | .lstore k => qL1 st fun x r => X (pc + len) ((k, .long x) :: qRm2 k ls) r uc us M
  | .lstore_n k => qL1 st fun x r => X (pc + len) ((k.val, .long x) :: qRm2 k.val ls) r uc us M
  | .astore k => qAn st (fun r => X (pc + len) ((k, .null) :: qRm1 k ls) r uc us M) fun a r => X (pc + len) ((k, .ref a) :: qRm1 k ls) r uc us M
  | .astore_n k => qAn st (fun r => X (pc + len) ((k.val, .null) :: qRm1 k.val ls) r uc us M) fun a r => X (pc + len) ((k.val, .ref a) :: qRm1 k.val ls) r uc us M
  | .iinc k n => qLdI ls k fun x => X (pc + len) ((k, .int (x + Int32.ofInt n)) :: qRm1 k ls) st uc us M
  | .dup => match st with
    | v :: r => qIf (!(qC2 v)) (X (pc + len) ls (v :: v :: r) uc us M)
    | [] => False
  | .pop => match st with
    | v :: r => qIf (!(qC2 v)) (X (pc + len) ls r uc us M)
    | [] => False
  | .iadd => qI2 st fun x y r => X (pc + len) ls (.int (x + y) :: r) uc us M
  | .isub => qI2 st fun x y r => X (pc + len) ls (.int (x - y) :: r) uc us M
  | .imul => qI2 st fun x y r => X (pc + len) ls (.int (x * y) :: r) uc us M
  | .iand => qI2 st fun x y r => X (pc + len) ls (.int (x &&& y) :: r) uc us M
  | .ior => qI2 st fun x y r => X (pc + len) ls (.int (x ||| y) :: r) uc us M
  | .ixor => qI2 st fun x y r => X (pc + len) ls (.int (x ^^^ y) :: r) uc us M
  | .ishl => qI2 st fun x y r => X (pc + len) ls (.int (x <<< (y &&& 31)) :: r) uc us M
  | .ishr => qI2 st fun x y r => X (pc + len) ls (.int (x >>> (y &&& 31)) :: r) uc us M
  | .iushr => qI2 st fun x y r => X (pc + len) ls (.int (x.toUInt32 >>> (y.toUInt32 &&& Int32.toUInt32 31)).toInt32 :: r) uc us M
  | .idiv => qI2 st fun x y r => ¬ y = 0 ∧ X (pc + len) ls (.int (x / y) :: r) uc us M
  | .ineg => qI1 st fun x r => X (pc + len) ls (.int (-x) :: r) uc us M
  | .ladd => qL2 st fun x y r => X (pc + len) ls (.long (x + y) :: r) uc us M
  | .lsub => qL2 st fun x y r => X (pc + len) ls (.long (x - y) :: r) uc us M
  | .land => qL2 st fun x y r => X (pc + len) ls (.long (x &&& y) :: r) uc us M
  | .lor => qL2 st fun x y r => X (pc + len) ls (.long (x ||| y) :: r) uc us M
  | .ldiv => qL2 st fun x y r => ¬ y = 0 ∧ X (pc + len) ls (.long (x / y) :: r) uc us M
  | .lrem => qL2 st fun x y r => ¬ y = 0 ∧ X (pc + len) ls (.long (x - x / y * y) :: r) uc us M
  | .lneg => qL1 st fun x r => X (pc + len) ls (.long (-x) :: r) uc us M
  | .lshl => qLI st fun x y r => X (pc + len) ls (.long (x <<< (y.toInt64 &&& 63)) :: r) uc us M
  | .lshr => qLI st fun x y r => X (pc + len) ls (.long (x >>> (y.toInt64 &&& 63)) :: r) uc us M
  | .lushr => qLI st fun x y r => X (pc + len) ls (.long (x.toUInt64 >>> (y.toInt64.toUInt64 &&& Int64.toUInt64 63)).toInt64 :: r) uc us M
  | .lcmp => qL2 st fun x y r => X (pc + len) ls (.int (lg_cmp x y) :: r) uc us M
  | .i2l => qI1 st fun x r => X (pc + len) ls (.long x.toInt64 :: r) uc us M
  | .l2i => qL1 st fun x r => X (pc + len) ls (.int x.toInt32 :: r) uc us M
  | .i2b => qI1 st fun x r => X (pc + len) ls (.int x.toInt8.toInt32 :: r) uc us M
  | .goto t => X t.toNat ls st uc us M
  | .ifCond .eq t => qI1 st fun x r => (x = 0 → X t.toNat ls r uc us M) ∧ (¬ x = 0 → X (pc + len) ls r uc us M)
  | .ifCond .ne t => qI1 st fun x r => (¬ x = 0 → X t.toNat ls r uc us M) ∧ (x = 0 → X (pc + len) ls r uc us M)
  | .ifCond .lt t => qI1 st fun x r => (x < 0 → X t.toNat ls r uc us M) ∧ (¬ x < 0 → X (pc + len) ls r uc us M)
  | .ifCond .ge t => qI1 st fun x r => (0 ≤ x → X t.toNat ls r uc us M) ∧ (¬ 0 ≤ x → X (pc + len) ls r uc us M)
  | .ifCond .gt t => qI1 st fun x r => (0 < x → X t.toNat ls r uc us M) ∧ (¬ 0 < x → X (pc + len) ls r uc us M)
  | .ifCond .le t => qI1 st fun x r => (x ≤ 0 → X t.toNat ls r uc us M) ∧ (¬ x ≤ 0 → X (pc + len) ls r uc us M)
  | .if_icmp .eq t => qI2 st fun x y r => (x = y → X t.toNat ls r uc us M) ∧ (¬ x = y → X (pc + len) ls r uc us M)
  | .if_icmp .ne t => qI2 st fun x y r => (¬ x = y → X t.toNat ls r uc us M) ∧ (x = y → X (pc + len) ls r uc us M)
  | .if_icmp .lt t => qI2 st fun x y r => (x < y → X t.toNat ls r uc us M) ∧ (¬ x < y → X (pc + len) ls r uc us M)
  | .if_icmp .ge t => qI2 st fun x y r => (y ≤ x → X t.toNat ls r uc us M) ∧ (¬ y ≤ x → X (pc + len) ls r uc us M)
  | .if_icmp .gt t => qI2 st fun x y r => (y < x → X t.toNat ls r uc us M) ∧ (¬ y < x → X (pc + len) ls r uc us M)
  | .if_icmp .le t => qI2 st fun x y r => (x ≤ y → X t.toNat ls r uc us M) ∧ (¬ x ≤ y → X (pc + len) ls r uc us M)
  | .ifnull t => qAn st (fun r => X t.toNat ls r uc us M) fun _ r => X (pc + len) ls r uc us M
  | .ifnonnull t => qAn st (fun r => X (pc + len) ls r uc us M) fun _ r => X t.toNat ls r uc us M
  | .tableswitch d lo hi ts => qI1 st fun x r => (x.toInt < lo ∨ hi < x.toInt → X d.toNat ls r uc us M) ∧ qTabs x (fun t => X t ls r uc us M) lo ts.toList
  | .lookupswitch d ps => qI1 st fun x r => qLks x (fun t => X t ls r uc us M) d ps.toList
  | .getstatic _ => X (pc + len) ls (.ref 1 :: st) uc us M
  | .getfield c => qA1 st fun a r => qIs a (c / 100) (qIn (qPh T) a M (match qTf (c / 100) (c % 100) with
      | 2 => (match (bif qPh T then qG a (c % 100) else none) with
        | some b => X (pc + len) ls (.ref b :: r) uc us M
        | none => ∃ v : Option Nat, M.2.2.2.2 a (c % 100) = v ∧ X (pc + len) ls (va_rf v :: r) uc us M)
      | _ => X (pc + len) ls (.int (M.2.2.1 a (c % 100)) :: r) uc us M))
  | .putfield c => match qTf (c / 100) (c % 100) with
    | 2 => qVA st fun a v r => qIs a (c / 100) (qIn (qPh T) a M (qIf (!(qPh T) || !((qG a (c % 100)).isSome)) (qRfOk (M.1 + 2) v ∧ X (pc + len) ls r uc us (M.1, M.2.1, M.2.2.1, M.2.2.2.1, q2 M.2.2.2.2 a (c % 100) v))))
    | 1 => qIA st fun a x r => qIs a (c / 100) (qIn (qPh T) a M ((x = 0 ∨ x = 1) ∧ X (pc + len) ls r uc us (M.1, M.2.1, q2 M.2.2.1 a (c % 100) x, M.2.2.2.1, M.2.2.2.2)))
    | _ => qIA st fun a x r => qIs a (c / 100) (qIn (qPh T) a M (X (pc + len) ls r uc us (M.1, M.2.1, q2 M.2.2.1 a (c % 100) x, M.2.2.2.1, M.2.2.2.2)))
  | .arraylength => qA1 st fun a r => match Nat.blt a 2 with
    | true => X (pc + len) ls (.int (Int32.ofNat (qLen M.2.1 a)) :: r) uc us M
    | false => qIf (Nat.ble 13 (qK a)) (qIn (qPh T) a M (X (pc + len) ls (.int (Int32.ofNat (qLen M.2.1 a)) :: r) uc us M))
  | .iaload => qAI st fun a i r => match Nat.blt a 2 with
    | true => vp_in i (qLen M.2.1 a) ∧ X (pc + len) ls (.int (M.2.2.1 a i.toNatClampNeg) :: r) uc us M
    | false => qIs a 14 (qIn (qPh T) a M (vp_in i (qLen M.2.1 a) ∧ X (pc + len) ls (.int (M.2.2.1 a i.toNatClampNeg) :: r) uc us M))
  | .baload => qAI st fun a i r => match Nat.beq (qK a) 16 with
    | true => qIn (qPh T) a M (vp_in i (qLen M.2.1 a) ∧ X (pc + len) ls (.int (M.2.2.1 a i.toNatClampNeg) :: r) uc us M)
    | false => qIs a 13 (qIn (qPh T) a M (vp_in i (qLen M.2.1 a) ∧ X (pc + len) ls (.int (M.2.2.1 a i.toNatClampNeg) :: r) uc us M))
  | .laload => qAI st fun a i r => qIs a 15 (qIn (qPh T) a M (vp_in i (qLen M.2.1 a) ∧ X (pc + len) ls (.long (M.2.2.2.1 a i.toNatClampNeg) :: r) uc us M))
  | .aaload => qAI st fun a i r => qIs a 17 (qIn (qPh T) a M (vp_in i (qLen M.2.1 a) ∧ ∃ v : Option Nat, M.2.2.2.2 a i.toNatClampNeg = v ∧ X (pc + len) ls (va_rf v :: r) uc us M))
  | .iastore => qAII st fun a i x r => qIs a 14 (qIn (qPh T) a M (vp_in i (qLen M.2.1 a) ∧ X (pc + len) ls r uc us (M.1, M.2.1, q2 M.2.2.1 a i.toNatClampNeg x, M.2.2.2.1, M.2.2.2.2)))
  | .bastore => qAII st fun a i x r => match Nat.beq (qK a) 16 with
    | true => qIn (qPh T) a M (vp_in i (qLen M.2.1 a) ∧ X (pc + len) ls r uc us (M.1, M.2.1, q2 M.2.2.1 a i.toNatClampNeg (vp_nar .boolean x), M.2.2.2.1, M.2.2.2.2))
    | false => qIs a 13 (qIn (qPh T) a M (vp_in i (qLen M.2.1 a) ∧ X (pc + len) ls r uc us (M.1, M.2.1, q2 M.2.2.1 a i.toNatClampNeg (vp_nar .byte x), M.2.2.2.1, M.2.2.2.2)))
  | .lastore => qAIL st fun a i x r => qIs a 15 (qIn (qPh T) a M (vp_in i (qLen M.2.1 a) ∧ X (pc + len) ls r uc us (M.1, M.2.1, M.2.2.1, q2 M.2.2.2.1 a i.toNatClampNeg x, M.2.2.2.2)))
  | .aastore => qAIA st fun a i v r => qIs a 17 (qIn (qPh T) a M (vp_in i (qLen M.2.1 a) ∧ (∀ b, v = some b → qK b = 9 ∧ 2 ≤ b ∧ b < M.1 + 2) ∧ X (pc + len) ls r uc us (M.1, M.2.1, M.2.2.1, M.2.2.2.1, q2 M.2.2.2.2 a i.toNatClampNeg v)))
  | .new c => qIf (!(qPh T)) (qIs (M.1 + 2) c ((uc + 1 ≤ qMc T ∧ us + qNf c ≤ qMs T ∧ qRefs (M.1 + 2) st ∧ qRefs (M.1 + 2) (ls.map Prod.snd)) ∧ X (pc + len) ls (.ref (M.1 + 2) :: st) (uc + 1) (us + qNf c) (M.1 + 1, M.2.1, qRow M.2.2.1 (M.1 + 2) (fun _ => 0), M.2.2.2.1, qRow M.2.2.2.2 (M.1 + 2) (fun _ => none))))
  | .newarray ty => qIf (!(qPh T)) (qI1 st fun n r => qIs (M.1 + 2) (match ty with | .int => 14 | .byte => 13 | .long => 15 | .boolean => 16 | _ => 77)
      ((¬ n < 0 ∧ n.toNatClampNeg ≤ 100000 ∧ qLen (qUp M.2.1 (M.1 + 2) n.toNatClampNeg) (M.1 + 2) = n.toNatClampNeg ∧ uc + 1 ≤ qMc T ∧ us + n.toNatClampNeg ≤ qMs T ∧ qRefs (M.1 + 2) r ∧ qRefs (M.1 + 2) (ls.map Prod.snd)) ∧
        X (pc + len) ls (.ref (M.1 + 2) :: r) (uc + 1) (us + n.toNatClampNeg) (M.1 + 1, qUp M.2.1 (M.1 + 2) n.toNatClampNeg, qRow M.2.2.1 (M.1 + 2) (fun _ => 0), qRow M.2.2.2.1 (M.1 + 2) (fun _ => 0), M.2.2.2.2)))
  | .anewarray _ => qIf (!(qPh T)) (qI1 st fun n r => qIs (M.1 + 2) 17
      ((¬ n < 0 ∧ n.toNatClampNeg ≤ 100000 ∧ qLen (qUp M.2.1 (M.1 + 2) n.toNatClampNeg) (M.1 + 2) = n.toNatClampNeg ∧ uc + 1 ≤ qMc T ∧ us + n.toNatClampNeg ≤ qMs T ∧ qRefs (M.1 + 2) r ∧ qRefs (M.1 + 2) (ls.map Prod.snd)) ∧
        X (pc + len) ls (.ref (M.1 + 2) :: r) (uc + 1) (us + n.toNatClampNeg) (M.1 + 1, qUp M.2.1 (M.1 + 2) n.toNatClampNeg, M.2.2.1, M.2.2.2.1, qRow M.2.2.2.2 (M.1 + 2) (fun _ => none))))
  | .invokevirtual j => qTake (qNa (qTab j)) [] st fun as st' => qA1 st' fun b rest => qIs b (qOc (qTab j)) (qIn (qPh T) b M (qCall T cs j (.ref b :: as) ls rest M uc us fun st'' uc' us' M' => X (pc + len) ls st'' uc' us' M'))
  | .invokestatic j => match Nat.beq j 9998 with
    | true => qCp st fun s sp d dp n r => qIs s 15 (qIs d 15 (qIn (qPh T) s M (qIn (qPh T) d M (qIf (Nat.ble (qCat r) 4) ((¬ sp < 0 ∧ ¬ dp < 0 ∧ ¬ n < 0 ∧ sp.toNatClampNeg + n.toNatClampNeg ≤ qLen M.2.1 s ∧ dp.toNatClampNeg + n.toNatClampNeg ≤ qLen M.2.1 d) ∧
        X (pc + len) ls r uc us (M.1, M.2.1, M.2.2.1, qRow M.2.2.2.1 d (va_cpy (M.2.2.2.1 s) (M.2.2.2.1 d) sp.toNatClampNeg dp.toNatClampNeg n.toNatClampNeg), M.2.2.2.2))))))
    | false => match Nat.ble 9990 j with
      | true => qMath j st fun v r => X (pc + len) ls (.int v :: r) uc us M
      | false => qTake (qNa (qTab j)) [] st fun as rest => qCall T cs j as ls rest M uc us fun st'' uc' us' M' => X (pc + len) ls st'' uc' us' M'
  | .invokespecial j => match Nat.beq j 9999 with
    | true => qA1 st fun _ r => qIf (Nat.ble (qCat r) 8) (X (pc + len) ls r uc us M)
    | false => qTake (qNa (qTab j)) [] st fun as st' => qA1 st' fun b rest => qCall T cs j (.ref b :: as) ls rest M uc us fun st'' uc' us' M' => X (pc + len) ls st'' uc' us' M'
  | .ireturn => match st with
    | [.int v] => match qRt T with
      | some .int => Q (some (.int v)) M
      | some .boolean => (v = 0 ∨ v = 1) ∧ Q (some (.int v)) M
      | _ => False
    | _ => False
  | .lreturn => match st with
    | [.long v] => Q (some (.long v)) M
    | _ => False
  | .areturn => match st with
    | [.ref v] => Q (some (.ref v)) M
    | [.null] => Q (some .null) M
    | _ => False
  | .return_ => match st with
    | [] => Q none M
    | _ => False
  | _ => False
def qRun (T : qT) (cs : qC) (Q : qP) (X : qX) (cuts : List Nat) : Nat → qX
  | 0 => X
  | n + 1 => qStep T cs Q (fun pc ls st uc us M => match cuts.elem pc with
    | true => X pc ls st uc us M
    | false => qRun T cs Q X cuts n pc ls st uc us M)
/-- a place in a method from which its way comes to its end with Q -/
def qJ (T : qT) (cs : qC) (Q : qP) : qX := fun pc ls st uc us M => ∀ X : qX, (∀ (cuts : List Nat) (n : Nat) (pc : Nat) (ls : List (Nat × Value)) (st : List Value) (uc us : Nat) (M : qM), qRun T cs Q X cuts (n + 1) pc ls st uc us M → X pc ls st uc us M) → X pc ls st uc us M
def qWP : Nat → qC
  | 0 => fun _ _ _ _ => False
  | d + 1 => fun j as M Q => j < qAll.length ∧ Nat.ble (qCat as) (qLo (qTab j)) = true ∧ qJ (qTab j) (qWP d) Q 0 (lv_args 0 as) [] 0 0 M
