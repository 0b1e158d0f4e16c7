/-! each row of the tables is what the bytes decode to -/
def qIx : List (Nat × Nat × Nat) → Nat → Nat → Option Nat
  | [], _, _ => none
  | (a, b, x) :: r, o, c => bif (Nat.beq a o && Nat.beq b c) then some x else qIx r o c
theorem qIx_mem : ∀ (l : List (Nat × Nat × Nat)) (o c x : Nat), qIx l o c = some x → (o, c, x) ∈ l := by
  intro l
  induction l with
  | nil => intro o c x h; cases h
  | cons e r ih =>
    intro o c x h
    obtain ⟨a, b, y⟩ := e
    unfold qIx at h
    cases hb : (Nat.beq a o && Nat.beq b c) with
    | true =>
      rw [hb] at h
      simp only [Bool.and_eq_true] at hb
      have h1 := Nat.eq_of_beq_eq_true hb.1
      have h2 := Nat.eq_of_beq_eq_true hb.2
      subst h1; subst h2
      cases h
      exact List.mem_cons_self
    | false =>
      rw [hb] at h
      exact List.mem_cons_of_mem _ (ih o c x h)
def qRaw (oc pc : Nat) (ins : Instr) : Option Instr := match ins with
  | .getfield c => (qIx qFL oc c).map .getfield
  | .putfield c => (qIx qFL oc c).map .putfield
  | .new c => (qIx qCL oc c).map .new
  | .anewarray c => bif Nat.beq c 9 then (qIx qCL oc c).map .anewarray else none
  | .ldc v => (qIx qLD oc v).map .ldc
  | .ldc_w v => (qIx qLD oc v).map .ldc_w
  | .ldc2_w v => (qIx qLL oc v).map .ldc2_w
  | .invokevirtual j => bif qViL.elem j then (qIx qML oc j).map .invokevirtual else none
  | .invokestatic j => bif (Nat.ble 9990 j || qStL.elem j) then (qIx qML oc j).map .invokestatic else none
  | .invokespecial j => bif (Nat.beq j 9999 || qSpL.elem j) then ((match qIx qMN oc j with
    | some x => some x
    | none => qIx qML oc j).map .invokespecial) else none
  | .getstatic _ => bif Nat.beq oc 5 then some (.getstatic 29) else none
  | .goto t => some (.goto (t - pc))
  | .ifCond c t => some (.ifCond c (t - pc))
  | .if_icmp c t => some (.if_icmp c (t - pc))
  | .ifnull t => some (.ifnull (t - pc))
  | .ifnonnull t => some (.ifnonnull (t - pc))
  | .tableswitch d lo hi ts => some (.tableswitch (d - pc) lo hi (ts.map (fun t => t - pc)))
  | .lookupswitch d ps => some (.lookupswitch (d - pc) (ps.map (fun q => (q.1, q.2 - pc))))
  | i => some i
def qIl (ins : Instr) (len : Nat) : Nat := match ins with
  | .iload _ | .lload _ | .aload _ | .istore _ | .lstore _ | .astore _ | .bipush _ | .ldc _ | .newarray _ => 2
  | .sipush _ | .ldc_w _ | .ldc2_w _ | .iinc _ _ | .goto _ | .ifCond _ _ | .if_icmp _ _ | .ifnull _ | .ifnonnull _ | .getstatic _ | .getfield _ | .putfield _ | .new _ | .anewarray _ | .invokevirtual _ | .invokestatic _ | .invokespecial _ => 3
  | .tableswitch _ _ _ _ => len
  | .lookupswitch _ _ => len
  | _ => 1
/-- what else must be so for the row to serve -/
def qEx (T : qT) (ins : Instr) : Bool := match ins with
  | .getfield c => Nat.blt (c / 100) 13 && Nat.blt (c % 100) (qNf (c / 100))
  | .putfield c => Nat.blt (c / 100) 13 && (Nat.blt (c % 100) (qNf (c / 100)) && (!((qCls (c / 100)).2.1 (c % 100)).2.2.2 || (decide ((qY T).name = "<init>") && (Nat.beq (qOc T) (c / 100) && !(qPh T)))))
  | .new c => Nat.blt c 13
  | .bipush n => decide ((Int8.ofInt n).toInt32 = Int32.ofInt n)
  | .sipush n => decide ((Int16.ofInt n).toInt32 = Int32.ofInt n)
  | .istore k => Nat.blt k (qLo T)
  | .istore_n k => Nat.blt k.val (qLo T)
  | .astore k => Nat.blt k (qLo T)
  | .astore_n k => Nat.blt k.val (qLo T)
  | .lstore k => Nat.blt (k + 1) (qLo T)
  | .lstore_n k => Nat.blt (k.val + 1) (qLo T)
  | .iinc k _ => Nat.blt k (qLo T)
  | .goto t => decide (0 ≤ t)
  | .ifCond _ t => decide (0 ≤ t)
  | .if_icmp _ t => decide (0 ≤ t)
  | .ifnull t => decide (0 ≤ t)
  | .ifnonnull t => decide (0 ≤ t)
  | .tableswitch d lo hi ts => decide (0 ≤ d) && (ts.toList.all (fun t => decide (0 ≤ t)) && decide (hi = lo + ts.toList.length - 1))
  | .lookupswitch d ps => decide (0 ≤ d) && (ps.toList.all (fun q => decide (0 ≤ q.2)) && (ps.toList.zip (ps.toList.drop 1)).all (fun (a, next) => a.1 < next.1))
  | .lreturn => decide (qRt T = some .long)
  | .areturn => match qRt T with
    | some (.object _) => true
    | _ => false
  | .return_ => (qRt T).isNone
  | _ => true
def qChk (T : qT) (q : Nat × Instr × Nat) : Bool := match qRaw (qOc T) q.1 q.2.1 with
  | some raw => decide (decode (qB T) q.1 = .ok (raw, q.2.2)) && (Nat.beq q.2.2 (qIl q.2.1 q.2.2) && qEx T q.2.1)
  | none => false
def qOKm (T : qT) : Bool := (qBl T).all (fun b => b.2.all (qChk T)) && (decide ((qY T).cls = qCn (qOc T)) && (plainName (qY T).cls && (decide ((parseMethodDescriptor (qY T).desc).map (fun d => d.parameters.length) = some (qNa T)) && (decide ((qY T).cls ≠ "java/lang/invoke/MethodHandle") && (decide ((qY T).cls ≠ "java/lang/invoke/VarHandle") && (Nat.ble (qLo T) 21))))))
set_option maxRecDepth 100000 in
theorem ok_X0_init : qOKm m_X0_init = true := by decide +kernel
set_option maxRecDepth 100000 in
theorem ok_X0_size : qOKm m_X0_size = true := by decide +kernel
set_option maxRecDepth 100000 in
theorem ok_X0_limit : qOKm m_X0_limit = true := by decide +kernel
set_option maxRecDepth 100000 in
theorem ok_X0_put : qOKm m_X0_put = true := by decide +kernel
set_option maxRecDepth 100000 in
theorem ok_X0_drop : qOKm m_X0_drop = true := by decide +kernel
set_option maxRecDepth 100000 in
theorem ok_X0_settle : qOKm m_X0_settle = true := by decide +kernel
set_option maxRecDepth 100000 in
theorem ok_X0_settleBy : qOKm m_X0_settleBy = true := by decide +kernel
set_option maxRecDepth 100000 in
theorem ok_X0_tighten : qOKm m_X0_tighten = true := by decide +kernel
set_option maxRecDepth 100000 in
theorem ok_X0_earliest : qOKm m_X0_earliest = true := by decide +kernel
set_option maxRecDepth 100000 in
theorem ok_X0_latest : qOKm m_X0_latest = true := by decide +kernel
set_option maxRecDepth 100000 in
theorem ok_X0_clashing : qOKm m_X0_clashing = true := by decide +kernel
set_option maxRecDepth 100000 in
theorem ok_X1_init : qOKm m_X1_init = true := by decide +kernel
set_option maxRecDepth 100000 in
theorem ok_X1_allowance : qOKm m_X1_allowance = true := by decide +kernel
set_option maxRecDepth 100000 in
theorem ok_X1_mark : qOKm m_X1_mark = true := by decide +kernel
set_option maxRecDepth 100000 in
theorem ok_X1_neighbour : qOKm m_X1_neighbour = true := by decide +kernel
set_option maxRecDepth 100000 in
theorem ok_X1_setNeighbour : qOKm m_X1_setNeighbour = true := by decide +kernel
set_option maxRecDepth 100000 in
theorem ok_X1_tell : qOKm m_X1_tell = true := by decide +kernel
set_option maxRecDepth 100000 in
theorem ok_X1_tellTolerance : qOKm m_X1_tellTolerance = true := by decide +kernel
set_option maxRecDepth 100000 in
theorem ok_X1_sum : qOKm m_X1_sum = true := by decide +kernel
set_option maxRecDepth 100000 in
theorem ok_X1_bestOf : qOKm m_X1_bestOf = true := by decide +kernel
set_option maxRecDepth 100000 in
theorem ok_X1_tie : qOKm m_X1_tie = true := by decide +kernel
set_option maxRecDepth 100000 in
theorem ok_X1_leadsTo : qOKm m_X1_leadsTo = true := by decide +kernel
set_option maxRecDepth 100000 in
theorem ok_X1_untieRight : qOKm m_X1_untieRight = true := by decide +kernel
set_option maxRecDepth 100000 in
theorem ok_X1_ties : qOKm m_X1_ties = true := by decide +kernel
set_option maxRecDepth 100000 in
theorem ok_X2_init : qOKm m_X2_init = true := by decide +kernel
set_option maxRecDepth 100000 in
theorem ok_X2_make : qOKm m_X2_make = true := by decide +kernel
set_option maxRecDepth 100000 in
theorem ok_X2_isSpent : qOKm m_X2_isSpent = true := by decide +kernel
set_option maxRecDepth 100000 in
theorem ok_X2_made : qOKm m_X2_made = true := by decide +kernel
set_option maxRecDepth 100000 in
theorem ok_X2_takeWord : qOKm m_X2_takeWord = true := by decide +kernel
set_option maxRecDepth 100000 in
theorem ok_X2_takeMark : qOKm m_X2_takeMark = true := by decide +kernel
set_option maxRecDepth 100000 in
theorem ok_X2_open : qOKm m_X2_open = true := by decide +kernel
set_option maxRecDepth 100000 in
theorem ok_X2_close : qOKm m_X2_close = true := by decide +kernel
set_option maxRecDepth 100000 in
theorem ok_X2_takeBar : qOKm m_X2_takeBar = true := by decide +kernel
set_option maxRecDepth 100000 in
theorem ok_X2_takePoint : qOKm m_X2_takePoint = true := by decide +kernel
set_option maxRecDepth 100000 in
theorem ok_X2_startLevel : qOKm m_X2_startLevel = true := by decide +kernel
set_option maxRecDepth 100000 in
theorem ok_X2_startRow : qOKm m_X2_startRow = true := by decide +kernel
set_option maxRecDepth 100000 in
theorem ok_X2_appendPiece : qOKm m_X2_appendPiece = true := by decide +kernel
set_option maxRecDepth 100000 in
theorem ok_X2_endRow : qOKm m_X2_endRow = true := by decide +kernel
set_option maxRecDepth 100000 in
theorem ok_X3_init : qOKm m_X3_init = true := by decide +kernel
set_option maxRecDepth 100000 in
theorem ok_X3_clear : qOKm m_X3_clear = true := by decide +kernel
set_option maxRecDepth 100000 in
theorem ok_X3_size : qOKm m_X3_size = true := by decide +kernel
set_option maxRecDepth 100000 in
theorem ok_X3_byteAt : qOKm m_X3_byteAt = true := by decide +kernel
set_option maxRecDepth 100000 in
theorem ok_X3_parsedAt : qOKm m_X3_parsedAt = true := by decide +kernel
set_option maxRecDepth 100000 in
theorem ok_X3_put : qOKm m_X3_put = true := by decide +kernel
set_option maxRecDepth 100000 in
theorem ok_X3_write : qOKm m_X3_write = true := by decide +kernel
set_option maxRecDepth 100000 in
theorem ok_X3_enclose : qOKm m_X3_enclose = true := by decide +kernel
set_option maxRecDepth 100000 in
theorem ok_X3_shown : qOKm m_X3_shown = true := by decide +kernel
set_option maxRecDepth 100000 in
theorem ok_X3_letterShown : qOKm m_X3_letterShown = true := by decide +kernel
set_option maxRecDepth 100000 in
theorem ok_X3_parse : qOKm m_X3_parse = true := by decide +kernel
set_option maxRecDepth 100000 in
theorem ok_X3_bareReading : qOKm m_X3_bareReading = true := by decide +kernel
set_option maxRecDepth 100000 in
theorem ok_X4_init : qOKm m_X4_init = true := by decide +kernel
set_option maxRecDepth 100000 in
theorem ok_X4_isWord : qOKm m_X4_isWord = true := by decide +kernel
set_option maxRecDepth 100000 in
theorem ok_X4_put : qOKm m_X4_put = true := by decide +kernel
set_option maxRecDepth 100000 in
theorem ok_X4_size : qOKm m_X4_size = true := by decide +kernel
set_option maxRecDepth 100000 in
theorem ok_X4_has : qOKm m_X4_has = true := by decide +kernel
set_option maxRecDepth 100000 in
theorem ok_X4_mayBeOne : qOKm m_X4_mayBeOne = true := by decide +kernel
set_option maxRecDepth 100000 in
theorem ok_X4_sort : qOKm m_X4_sort = true := by decide +kernel
set_option maxRecDepth 100000 in
theorem ok_X4_belongs : qOKm m_X4_belongs = true := by decide +kernel
set_option maxRecDepth 100000 in
theorem ok_X4_groupOf : qOKm m_X4_groupOf = true := by decide +kernel
set_option maxRecDepth 100000 in
theorem ok_X4_fatherOf : qOKm m_X4_fatherOf = true := by decide +kernel
set_option maxRecDepth 100000 in
theorem ok_X4_isAhead : qOKm m_X4_isAhead = true := by decide +kernel
set_option maxRecDepth 100000 in
theorem ok_X5_init : qOKm m_X5_init = true := by decide +kernel
set_option maxRecDepth 100000 in
theorem ok_X5_told : qOKm m_X5_told = true := by decide +kernel
set_option maxRecDepth 100000 in
theorem ok_X5_packed : qOKm m_X5_packed = true := by decide +kernel
set_option maxRecDepth 100000 in
theorem ok_X5_kindOf : qOKm m_X5_kindOf = true := by decide +kernel
set_option maxRecDepth 100000 in
theorem ok_X5_mayOf : qOKm m_X5_mayOf = true := by decide +kernel
set_option maxRecDepth 100000 in
theorem ok_X5_isUnder : qOKm m_X5_isUnder = true := by decide +kernel
set_option maxRecDepth 100000 in
theorem ok_X5_putHand : qOKm m_X5_putHand = true := by decide +kernel
set_option maxRecDepth 100000 in
theorem ok_X5_hands : qOKm m_X5_hands = true := by decide +kernel
set_option maxRecDepth 100000 in
theorem ok_X5_hasHand : qOKm m_X5_hasHand = true := by decide +kernel
set_option maxRecDepth 100000 in
theorem ok_X5_index : qOKm m_X5_index = true := by decide +kernel
set_option maxRecDepth 100000 in
theorem ok_X5_at : qOKm m_X5_at = true := by decide +kernel
set_option maxRecDepth 100000 in
theorem ok_X5_put : qOKm m_X5_put = true := by decide +kernel
set_option maxRecDepth 100000 in
theorem ok_X5_leader : qOKm m_X5_leader = true := by decide +kernel
set_option maxRecDepth 100000 in
theorem ok_X5_leading : qOKm m_X5_leading = true := by decide +kernel
set_option maxRecDepth 100000 in
theorem ok_X5_dissenters : qOKm m_X5_dissenters = true := by decide +kernel
set_option maxRecDepth 100000 in
theorem ok_X6_init : qOKm m_X6_init = true := by decide +kernel
set_option maxRecDepth 100000 in
theorem ok_X6_put : qOKm m_X6_put = true := by decide +kernel
set_option maxRecDepth 100000 in
theorem ok_X6_size : qOKm m_X6_size = true := by decide +kernel
set_option maxRecDepth 100000 in
theorem ok_X6_has : qOKm m_X6_has = true := by decide +kernel
set_option maxRecDepth 100000 in
theorem ok_X6_hasLine : qOKm m_X6_hasLine = true := by decide +kernel
set_option maxRecDepth 100000 in
theorem ok_X6_hasPlace : qOKm m_X6_hasPlace = true := by decide +kernel
set_option maxRecDepth 100000 in
theorem ok_X6_linesOf : qOKm m_X6_linesOf = true := by decide +kernel
set_option maxRecDepth 100000 in
theorem ok_X6_placesOf : qOKm m_X6_placesOf = true := by decide +kernel
set_option maxRecDepth 100000 in
theorem ok_X7_init : qOKm m_X7_init = true := by decide +kernel
set_option maxRecDepth 100000 in
theorem ok_X7_clear : qOKm m_X7_clear = true := by decide +kernel
set_option maxRecDepth 100000 in
theorem ok_X7_add : qOKm m_X7_add = true := by decide +kernel
set_option maxRecDepth 100000 in
theorem ok_X7_isWay : qOKm m_X7_isWay = true := by decide +kernel
set_option maxRecDepth 100000 in
theorem ok_X7_letterOn : qOKm m_X7_letterOn = true := by decide +kernel
set_option maxRecDepth 100000 in
theorem ok_X7_countWays : qOKm m_X7_countWays = true := by decide +kernel
set_option maxRecDepth 100000 in
theorem ok_X7_findWay : qOKm m_X7_findWay = true := by decide +kernel
set_option maxRecDepth 100000 in
theorem ok_X7_carryNothing : qOKm m_X7_carryNothing = true := by decide +kernel
set_option maxRecDepth 100000 in
theorem ok_X7_carry : qOKm m_X7_carry = true := by decide +kernel
set_option maxRecDepth 100000 in
theorem ok_X7_carriedAt : qOKm m_X7_carriedAt = true := by decide +kernel
set_option maxRecDepth 100000 in
theorem ok_X8_init : qOKm m_X8_init = true := by decide +kernel
set_option maxRecDepth 100000 in
theorem ok_X8_append : qOKm m_X8_append = true := by decide +kernel
set_option maxRecDepth 100000 in
theorem ok_X8_clear : qOKm m_X8_clear = true := by decide +kernel
set_option maxRecDepth 100000 in
theorem ok_X8_size : qOKm m_X8_size = true := by decide +kernel
set_option maxRecDepth 100000 in
theorem ok_X8_byteAt : qOKm m_X8_byteAt = true := by decide +kernel
set_option maxRecDepth 100000 in
theorem ok_X8_lettersFrom : qOKm m_X8_lettersFrom = true := by decide +kernel
set_option maxRecDepth 100000 in
theorem ok_X8_letterOf : qOKm m_X8_letterOf = true := by decide +kernel
set_option maxRecDepth 100000 in
theorem ok_X9_init : qOKm m_X9_init = true := by decide +kernel
set_option maxRecDepth 100000 in
theorem ok_X9_clear : qOKm m_X9_clear = true := by decide +kernel
set_option maxRecDepth 100000 in
theorem ok_X9_size : qOKm m_X9_size = true := by decide +kernel
set_option maxRecDepth 100000 in
theorem ok_X9_head : qOKm m_X9_head = true := by decide +kernel
set_option maxRecDepth 100000 in
theorem ok_X9_tail : qOKm m_X9_tail = true := by decide +kernel
set_option maxRecDepth 100000 in
theorem ok_X9_letter : qOKm m_X9_letter = true := by decide +kernel
set_option maxRecDepth 100000 in
theorem ok_X9_codeAt : qOKm m_X9_codeAt = true := by decide +kernel
set_option maxRecDepth 100000 in
theorem ok_X9_lengthOf : qOKm m_X9_lengthOf = true := by decide +kernel
set_option maxRecDepth 100000 in
theorem ok_X9_add : qOKm m_X9_add = true := by decide +kernel
set_option maxRecDepth 100000 in
theorem ok_X9_addAll : qOKm m_X9_addAll = true := by decide +kernel
set_option maxRecDepth 100000 in
theorem ok_X9_addPairs : qOKm m_X9_addPairs = true := by decide +kernel
set_option maxRecDepth 100000 in
theorem ok_X9_addPair : qOKm m_X9_addPair = true := by decide +kernel
set_option maxRecDepth 100000 in
theorem ok_X9_copy : qOKm m_X9_copy = true := by decide +kernel
set_option maxRecDepth 100000 in
theorem ok_X10_init : qOKm m_X10_init = true := by decide +kernel
set_option maxRecDepth 100000 in
theorem ok_X10_has : qOKm m_X10_has = true := by decide +kernel
set_option maxRecDepth 100000 in
theorem ok_X10_isMissing : qOKm m_X10_isMissing = true := by decide +kernel
set_option maxRecDepth 100000 in
theorem ok_X10_sizeOf : qOKm m_X10_sizeOf = true := by decide +kernel
set_option maxRecDepth 100000 in
theorem ok_X10_put : qOKm m_X10_put = true := by decide +kernel
set_option maxRecDepth 100000 in
theorem ok_X10_set : qOKm m_X10_set = true := by decide +kernel
set_option maxRecDepth 100000 in
theorem ok_X10_byteAt : qOKm m_X10_byteAt = true := by decide +kernel
set_option maxRecDepth 100000 in
theorem ok_X11_init : qOKm m_X11_init = true := by decide +kernel
set_option maxRecDepth 100000 in
theorem ok_X11_stone : qOKm m_X11_stone = true := by decide +kernel
set_option maxRecDepth 100000 in
theorem ok_X11_hand : qOKm m_X11_hand = true := by decide +kernel
set_option maxRecDepth 100000 in
theorem ok_X11_read : qOKm m_X11_read = true := by decide +kernel
set_option maxRecDepth 100000 in
theorem ok_X11_forget : qOKm m_X11_forget = true := by decide +kernel
set_option maxRecDepth 100000 in
theorem ok_X11_sign : qOKm m_X11_sign = true := by decide +kernel
set_option maxRecDepth 100000 in
theorem ok_X11_feed : qOKm m_X11_feed = true := by decide +kernel
set_option maxRecDepth 100000 in
theorem ok_X11_formula : qOKm m_X11_formula = true := by decide +kernel
set_option maxRecDepth 100000 in
theorem ok_X11_texts : qOKm m_X11_texts = true := by decide +kernel
set_option maxRecDepth 100000 in
theorem ok_X11_text : qOKm m_X11_text = true := by decide +kernel
set_option maxRecDepth 100000 in
theorem ok_X11_ways : qOKm m_X11_ways = true := by decide +kernel
set_option maxRecDepth 100000 in
theorem ok_X11_way : qOKm m_X11_way = true := by decide +kernel
set_option maxRecDepth 100000 in
theorem ok_X11_carried : qOKm m_X11_carried = true := by decide +kernel
set_option maxRecDepth 100000 in
theorem ok_X11_fits : qOKm m_X11_fits = true := by decide +kernel
set_option maxRecDepth 100000 in
theorem ok_X11_textsOf : qOKm m_X11_textsOf = true := by decide +kernel
set_option maxRecDepth 100000 in
theorem ok_X11_layBare : qOKm m_X11_layBare = true := by decide +kernel
set_option maxRecDepth 100000 in
theorem ok_X11_layBareMore : qOKm m_X11_layBareMore = true := by decide +kernel
set_option maxRecDepth 100000 in
theorem ok_X11_edge : qOKm m_X11_edge = true := by decide +kernel
set_option maxRecDepth 100000 in
theorem ok_X11_tolerance : qOKm m_X11_tolerance = true := by decide +kernel
set_option maxRecDepth 100000 in
theorem ok_X11_room : qOKm m_X11_room = true := by decide +kernel
set_option maxRecDepth 100000 in
theorem ok_X11_best : qOKm m_X11_best = true := by decide +kernel
set_option maxRecDepth 100000 in
theorem ok_X11_join : qOKm m_X11_join = true := by decide +kernel
set_option maxRecDepth 100000 in
theorem ok_X11_part : qOKm m_X11_part = true := by decide +kernel
set_option maxRecDepth 100000 in
theorem ok_X11_joined : qOKm m_X11_joined = true := by decide +kernel
set_option maxRecDepth 100000 in
theorem ok_X11_whole : qOKm m_X11_whole = true := by decide +kernel
set_option maxRecDepth 100000 in
theorem ok_X11_isSide : qOKm m_X11_isSide = true := by decide +kernel
set_option maxRecDepth 100000 in
theorem ok_X11_years : qOKm m_X11_years = true := by decide +kernel
set_option maxRecDepth 100000 in
theorem ok_X11_bound : qOKm m_X11_bound = true := by decide +kernel
set_option maxRecDepth 100000 in
theorem ok_X11_loose : qOKm m_X11_loose = true := by decide +kernel
set_option maxRecDepth 100000 in
theorem ok_X11_span : qOKm m_X11_span = true := by decide +kernel
set_option maxRecDepth 100000 in
theorem ok_X11_clash : qOKm m_X11_clash = true := by decide +kernel
set_option maxRecDepth 100000 in
theorem ok_X11_person : qOKm m_X11_person = true := by decide +kernel
set_option maxRecDepth 100000 in
theorem ok_X11_one : qOKm m_X11_one = true := by decide +kernel
set_option maxRecDepth 100000 in
theorem ok_X11_group : qOKm m_X11_group = true := by decide +kernel
set_option maxRecDepth 100000 in
theorem ok_X11_father : qOKm m_X11_father = true := by decide +kernel
set_option maxRecDepth 100000 in
theorem ok_X11_print : qOKm m_X11_print = true := by decide +kernel
set_option maxRecDepth 100000 in
theorem ok_X11_printed : qOKm m_X11_printed = true := by decide +kernel
set_option maxRecDepth 100000 in
theorem ok_X11_back : qOKm m_X11_back = true := by decide +kernel
set_option maxRecDepth 100000 in
theorem ok_X11_count : qOKm m_X11_count = true := by decide +kernel
set_option maxRecDepth 100000 in
theorem ok_X11_isFormulaOrNone : qOKm m_X11_isFormulaOrNone = true := by decide +kernel
set_option maxRecDepth 100000 in
theorem ok_X11_setPage : qOKm m_X11_setPage = true := by decide +kernel
set_option maxRecDepth 100000 in
theorem ok_X11_tray : qOKm m_X11_tray = true := by decide +kernel
set_option maxRecDepth 100000 in
theorem ok_X11_cell : qOKm m_X11_cell = true := by decide +kernel
set_option maxRecDepth 100000 in
theorem ok_X11_lay : qOKm m_X11_lay = true := by decide +kernel
set_option maxRecDepth 100000 in
theorem ok_X11_taken : qOKm m_X11_taken = true := by decide +kernel
set_option maxRecDepth 100000 in
theorem ok_X12_init : qOKm m_X12_init = true := by decide +kernel
set_option maxRecDepth 100000 in
theorem ok_X12_isIn : qOKm m_X12_isIn = true := by decide +kernel
set_option maxRecDepth 100000 in
theorem ok_X12_isStone : qOKm m_X12_isStone = true := by decide +kernel
set_option maxRecDepth 100000 in
theorem ok_X12_isLine : qOKm m_X12_isLine = true := by decide +kernel
set_option maxRecDepth 100000 in
theorem ok_X12_isPlace : qOKm m_X12_isPlace = true := by decide +kernel
set_option maxRecDepth 100000 in
theorem ok_X12_at : qOKm m_X12_at = true := by decide +kernel
set_option maxRecDepth 100000 in
theorem ok_X12_stone : qOKm m_X12_stone = true := by decide +kernel
set_option maxRecDepth 100000 in
theorem ok_X12_hand : qOKm m_X12_hand = true := by decide +kernel
set_option maxRecDepth 100000 in
theorem ok_X12_reads : qOKm m_X12_reads = true := by decide +kernel
set_option maxRecDepth 100000 in
theorem ok_X12_read : qOKm m_X12_read = true := by decide +kernel
set_option maxRecDepth 100000 in
theorem ok_X12_forget : qOKm m_X12_forget = true := by decide +kernel
set_option maxRecDepth 100000 in
theorem ok_X12_handOf : qOKm m_X12_handOf = true := by decide +kernel
set_option maxRecDepth 100000 in
theorem ok_X12_kindOf : qOKm m_X12_kindOf = true := by decide +kernel
set_option maxRecDepth 100000 in
theorem ok_X12_mayOf : qOKm m_X12_mayOf = true := by decide +kernel
set_option maxRecDepth 100000 in
theorem ok_X12_sign : qOKm m_X12_sign = true := by decide +kernel
set_option maxRecDepth 100000 in
theorem ok_X12_feed : qOKm m_X12_feed = true := by decide +kernel
set_option maxRecDepth 100000 in
theorem ok_X12_isLetter : qOKm m_X12_isLetter = true := by decide +kernel
set_option maxRecDepth 100000 in
theorem ok_X12_token : qOKm m_X12_token = true := by decide +kernel
set_option maxRecDepth 100000 in
theorem ok_X12_faults : qOKm m_X12_faults = true := by decide +kernel
set_option maxRecDepth 100000 in
theorem ok_X12_isAlike : qOKm m_X12_isAlike = true := by decide +kernel
set_option maxRecDepth 100000 in
theorem ok_X12_keeps : qOKm m_X12_keeps = true := by decide +kernel
set_option maxRecDepth 100000 in
theorem ok_X12_copies : qOKm m_X12_copies = true := by decide +kernel
set_option maxRecDepth 100000 in
theorem ok_X12_all : qOKm m_X12_all = true := by decide +kernel
set_option maxRecDepth 100000 in
theorem ok_X12_row : qOKm m_X12_row = true := by decide +kernel
set_option maxRecDepth 100000 in
theorem ok_X12_joins : qOKm m_X12_joins = true := by decide +kernel
set_option maxRecDepth 100000 in
theorem ok_X12_piece : qOKm m_X12_piece = true := by decide +kernel
set_option maxRecDepth 100000 in
theorem ok_X12_isAhead : qOKm m_X12_isAhead = true := by decide +kernel
set_option maxRecDepth 100000 in
theorem ok_X12_formula : qOKm m_X12_formula = true := by decide +kernel
set_option maxRecDepth 100000 in
theorem ok_X12_isFormula : qOKm m_X12_isFormula = true := by decide +kernel
set_option maxRecDepth 100000 in
theorem ok_X12_texts : qOKm m_X12_texts = true := by decide +kernel
set_option maxRecDepth 100000 in
theorem ok_X12_told : qOKm m_X12_told = true := by decide +kernel
set_option maxRecDepth 100000 in
theorem ok_X12_text : qOKm m_X12_text = true := by decide +kernel
set_option maxRecDepth 100000 in
theorem ok_X12_letterAt : qOKm m_X12_letterAt = true := by decide +kernel
set_option maxRecDepth 100000 in
theorem ok_X12_goes : qOKm m_X12_goes = true := by decide +kernel
set_option maxRecDepth 100000 in
theorem ok_X12_waysOf : qOKm m_X12_waysOf = true := by decide +kernel
set_option maxRecDepth 100000 in
theorem ok_X12_ways : qOKm m_X12_ways = true := by decide +kernel
set_option maxRecDepth 100000 in
theorem ok_X12_way : qOKm m_X12_way = true := by decide +kernel
set_option maxRecDepth 100000 in
theorem ok_X12_carriedOf : qOKm m_X12_carriedOf = true := by decide +kernel
set_option maxRecDepth 100000 in
theorem ok_X12_carried : qOKm m_X12_carried = true := by decide +kernel
set_option maxRecDepth 100000 in
theorem ok_X12_fits : qOKm m_X12_fits = true := by decide +kernel
set_option maxRecDepth 100000 in
theorem ok_X12_edgeAt : qOKm m_X12_edgeAt = true := by decide +kernel
set_option maxRecDepth 100000 in
theorem ok_X12_parts : qOKm m_X12_parts = true := by decide +kernel
set_option maxRecDepth 100000 in
theorem ok_X12_edge : qOKm m_X12_edge = true := by decide +kernel
set_option maxRecDepth 100000 in
theorem ok_X12_tolerance : qOKm m_X12_tolerance = true := by decide +kernel
set_option maxRecDepth 100000 in
theorem ok_X12_roomOf : qOKm m_X12_roomOf = true := by decide +kernel
set_option maxRecDepth 100000 in
theorem ok_X12_room : qOKm m_X12_room = true := by decide +kernel
set_option maxRecDepth 100000 in
theorem ok_X12_bestOf : qOKm m_X12_bestOf = true := by decide +kernel
set_option maxRecDepth 100000 in
theorem ok_X12_best : qOKm m_X12_best = true := by decide +kernel
set_option maxRecDepth 100000 in
theorem ok_X12_join : qOKm m_X12_join = true := by decide +kernel
set_option maxRecDepth 100000 in
theorem ok_X12_part : qOKm m_X12_part = true := by decide +kernel
set_option maxRecDepth 100000 in
theorem ok_X12_joined : qOKm m_X12_joined = true := by decide +kernel
set_option maxRecDepth 100000 in
theorem ok_X12_whole : qOKm m_X12_whole = true := by decide +kernel
set_option maxRecDepth 100000 in
theorem ok_X12_years : qOKm m_X12_years = true := by decide +kernel
set_option maxRecDepth 100000 in
theorem ok_X12_bound : qOKm m_X12_bound = true := by decide +kernel
set_option maxRecDepth 100000 in
theorem ok_X12_loose : qOKm m_X12_loose = true := by decide +kernel
set_option maxRecDepth 100000 in
theorem ok_X12_clashes : qOKm m_X12_clashes = true := by decide +kernel
set_option maxRecDepth 100000 in
theorem ok_X12_clashAll : qOKm m_X12_clashAll = true := by decide +kernel
set_option maxRecDepth 100000 in
theorem ok_X12_span : qOKm m_X12_span = true := by decide +kernel
set_option maxRecDepth 100000 in
theorem ok_X12_clash : qOKm m_X12_clash = true := by decide +kernel
set_option maxRecDepth 100000 in
theorem ok_X12_isWord : qOKm m_X12_isWord = true := by decide +kernel
set_option maxRecDepth 100000 in
theorem ok_X12_person : qOKm m_X12_person = true := by decide +kernel
set_option maxRecDepth 100000 in
theorem ok_X12_mayBeOne : qOKm m_X12_mayBeOne = true := by decide +kernel
set_option maxRecDepth 100000 in
theorem ok_X12_isPerson : qOKm m_X12_isPerson = true := by decide +kernel
set_option maxRecDepth 100000 in
theorem ok_X12_one : qOKm m_X12_one = true := by decide +kernel
set_option maxRecDepth 100000 in
theorem ok_X12_findGroups : qOKm m_X12_findGroups = true := by decide +kernel
set_option maxRecDepth 100000 in
theorem ok_X12_joinsGroup : qOKm m_X12_joinsGroup = true := by decide +kernel
set_option maxRecDepth 100000 in
theorem ok_X12_group : qOKm m_X12_group = true := by decide +kernel
set_option maxRecDepth 100000 in
theorem ok_X12_father : qOKm m_X12_father = true := by decide +kernel
set_option maxRecDepth 100000 in
theorem ok_X12_prints : qOKm m_X12_prints = true := by decide +kernel
set_option maxRecDepth 100000 in
theorem ok_X12_print : qOKm m_X12_print = true := by decide +kernel
set_option maxRecDepth 100000 in
theorem ok_X12_printed : qOKm m_X12_printed = true := by decide +kernel
set_option maxRecDepth 100000 in
theorem ok_X12_isSign : qOKm m_X12_isSign = true := by decide +kernel
set_option maxRecDepth 100000 in
theorem ok_X12_bitOf : qOKm m_X12_bitOf = true := by decide +kernel
set_option maxRecDepth 100000 in
theorem ok_X12_backs : qOKm m_X12_backs = true := by decide +kernel
set_option maxRecDepth 100000 in
theorem ok_X12_back : qOKm m_X12_back = true := by decide +kernel
set_option maxRecDepth 100000 in
theorem ok_X12_count : qOKm m_X12_count = true := by decide +kernel
set_option maxRecDepth 100000 in
theorem ok_X12_tray : qOKm m_X12_tray = true := by decide +kernel
set_option maxRecDepth 100000 in
theorem ok_X12_cell : qOKm m_X12_cell = true := by decide +kernel
set_option maxRecDepth 100000 in
theorem ok_X12_lay : qOKm m_X12_lay = true := by decide +kernel
set_option maxRecDepth 100000 in
theorem ok_X12_taken : qOKm m_X12_taken = true := by decide +kernel
set_option maxRecDepth 100000 in
theorem ok_J6_bitCount_0f7a4 : qOKm m_J6_bitCount_0f7a4 = true := by decide +kernel
set_option maxRecDepth 100000 in
theorem ok_J13_bitCount_95d88 : qOKm m_J13_bitCount_95d88 = true := by decide +kernel
set_option maxRecDepth 100000 in
theorem ok_J7_rangeCheck_23922 : qOKm m_J7_rangeCheck_23922 = true := by decide +kernel
set_option maxRecDepth 100000 in
theorem ok_J7_fill_53178 : qOKm m_J7_fill_53178 = true := by decide +kernel
set_option maxRecDepth 100000 in
theorem ok_J7_fill_eb02e : qOKm m_J7_fill_eb02e = true := by decide +kernel
set_option maxRecDepth 100000 in
theorem okb_0 : bL_0.2.all (qChk m_L_law) = true := by decide +kernel
set_option maxRecDepth 100000 in
theorem okb_1 : bL_1.2.all (qChk m_L_law) = true := by decide +kernel
set_option maxRecDepth 100000 in
theorem okb_2 : bL_2.2.all (qChk m_L_law) = true := by decide +kernel
set_option maxRecDepth 100000 in
theorem okb_3 : bL_3.2.all (qChk m_L_law) = true := by decide +kernel
set_option maxRecDepth 100000 in
theorem okb_4 : bL_4.2.all (qChk m_L_law) = true := by decide +kernel
set_option maxRecDepth 100000 in
theorem okb_5 : bL_5.2.all (qChk m_L_law) = true := by decide +kernel
set_option maxRecDepth 100000 in
theorem okb_6 : bL_6.2.all (qChk m_L_law) = true := by decide +kernel
set_option maxRecDepth 100000 in
theorem okb_7 : bL_7.2.all (qChk m_L_law) = true := by decide +kernel
set_option maxRecDepth 100000 in
theorem okb_8 : bL_8.2.all (qChk m_L_law) = true := by decide +kernel
set_option maxRecDepth 100000 in
theorem okb_9 : bL_9.2.all (qChk m_L_law) = true := by decide +kernel
set_option maxRecDepth 100000 in
theorem okb_10 : bL_10.2.all (qChk m_L_law) = true := by decide +kernel
set_option maxRecDepth 100000 in
theorem okb_11 : bL_11.2.all (qChk m_L_law) = true := by decide +kernel
set_option maxRecDepth 100000 in
theorem okb_12 : bL_12.2.all (qChk m_L_law) = true := by decide +kernel
set_option maxRecDepth 100000 in
theorem okb_13 : bL_13.2.all (qChk m_L_law) = true := by decide +kernel
set_option maxRecDepth 100000 in
theorem okb_14 : bL_14.2.all (qChk m_L_law) = true := by decide +kernel
set_option maxRecDepth 100000 in
theorem okb_15 : bL_15.2.all (qChk m_L_law) = true := by decide +kernel
set_option maxRecDepth 100000 in
theorem okb_16 : bL_16.2.all (qChk m_L_law) = true := by decide +kernel
set_option maxRecDepth 100000 in
theorem okb_17 : bL_17.2.all (qChk m_L_law) = true := by decide +kernel
set_option maxRecDepth 100000 in
theorem okb_18 : bL_18.2.all (qChk m_L_law) = true := by decide +kernel
set_option maxRecDepth 100000 in
theorem okb_19 : bL_19.2.all (qChk m_L_law) = true := by decide +kernel
set_option maxRecDepth 100000 in
theorem okb_20 : bL_20.2.all (qChk m_L_law) = true := by decide +kernel
set_option maxRecDepth 100000 in
theorem okb_21 : bL_21.2.all (qChk m_L_law) = true := by decide +kernel
set_option maxRecDepth 100000 in
theorem okb_22 : bL_22.2.all (qChk m_L_law) = true := by decide +kernel
set_option maxRecDepth 100000 in
theorem okb_23 : bL_23.2.all (qChk m_L_law) = true := by decide +kernel
set_option maxRecDepth 100000 in
theorem okb_24 : bL_24.2.all (qChk m_L_law) = true := by decide +kernel
set_option maxRecDepth 100000 in
theorem okb_25 : bL_25.2.all (qChk m_L_law) = true := by decide +kernel
set_option maxRecDepth 100000 in
theorem okb_26 : bL_26.2.all (qChk m_L_law) = true := by decide +kernel
set_option maxRecDepth 100000 in
theorem okb_27 : bL_27.2.all (qChk m_L_law) = true := by decide +kernel
set_option maxRecDepth 100000 in
theorem okb_28 : bL_28.2.all (qChk m_L_law) = true := by decide +kernel
set_option maxRecDepth 100000 in
theorem okb_29 : bL_29.2.all (qChk m_L_law) = true := by decide +kernel
set_option maxRecDepth 100000 in
theorem okb_30 : bL_30.2.all (qChk m_L_law) = true := by decide +kernel
set_option maxRecDepth 100000 in
theorem okb_31 : bL_31.2.all (qChk m_L_law) = true := by decide +kernel
set_option maxRecDepth 100000 in
theorem okb_32 : bL_32.2.all (qChk m_L_law) = true := by decide +kernel
set_option maxRecDepth 100000 in
theorem okb_33 : bL_33.2.all (qChk m_L_law) = true := by decide +kernel
set_option maxRecDepth 100000 in
theorem okb_34 : bL_34.2.all (qChk m_L_law) = true := by decide +kernel
set_option maxRecDepth 100000 in
theorem okb_35 : bL_35.2.all (qChk m_L_law) = true := by decide +kernel
set_option maxRecDepth 100000 in
theorem ok_L_law : qOKm m_L_law = true := by
  unfold qOKm
  rw [show qBl m_L_law = [bL_0, bL_1, bL_2, bL_3, bL_4, bL_5, bL_6, bL_7, bL_8, bL_9, bL_10, bL_11, bL_12, bL_13, bL_14, bL_15, bL_16, bL_17, bL_18, bL_19, bL_20, bL_21, bL_22, bL_23, bL_24, bL_25, bL_26, bL_27, bL_28, bL_29, bL_30, bL_31, bL_32, bL_33, bL_34, bL_35] from rfl]
  simp only [List.all_cons, List.all_nil, okb_0, okb_1, okb_2, okb_3, okb_4, okb_5, okb_6, okb_7, okb_8, okb_9, okb_10, okb_11, okb_12, okb_13, okb_14, okb_15, okb_16, okb_17, okb_18, okb_19, okb_20, okb_21, okb_22, okb_23, okb_24, okb_25, okb_26, okb_27, okb_28, okb_29, okb_30, okb_31, okb_32, okb_33, okb_34, okb_35, Bool.true_and]
  decide +kernel
set_option maxRecDepth 100000 in
theorem qAll_ok : ∀ T ∈ qAll, qOKm T = true := by
  unfold qAll
  exact (List.forall_mem_cons.mpr ⟨ok_X0_init, (List.forall_mem_cons.mpr ⟨ok_X0_size, (List.forall_mem_cons.mpr ⟨ok_X0_limit, (List.forall_mem_cons.mpr ⟨ok_X0_put, (List.forall_mem_cons.mpr ⟨ok_X0_drop, (List.forall_mem_cons.mpr ⟨ok_X0_settle, (List.forall_mem_cons.mpr ⟨ok_X0_settleBy, (List.forall_mem_cons.mpr ⟨ok_X0_tighten, (List.forall_mem_cons.mpr ⟨ok_X0_earliest, (List.forall_mem_cons.mpr ⟨ok_X0_latest, (List.forall_mem_cons.mpr ⟨ok_X0_clashing, (List.forall_mem_cons.mpr ⟨ok_X1_init, (List.forall_mem_cons.mpr ⟨ok_X1_allowance, (List.forall_mem_cons.mpr ⟨ok_X1_mark, (List.forall_mem_cons.mpr ⟨ok_X1_neighbour, (List.forall_mem_cons.mpr ⟨ok_X1_setNeighbour, (List.forall_mem_cons.mpr ⟨ok_X1_tell, (List.forall_mem_cons.mpr ⟨ok_X1_tellTolerance, (List.forall_mem_cons.mpr ⟨ok_X1_sum, (List.forall_mem_cons.mpr ⟨ok_X1_bestOf, (List.forall_mem_cons.mpr ⟨ok_X1_tie, (List.forall_mem_cons.mpr ⟨ok_X1_leadsTo, (List.forall_mem_cons.mpr ⟨ok_X1_untieRight, (List.forall_mem_cons.mpr ⟨ok_X1_ties, (List.forall_mem_cons.mpr ⟨ok_X2_init, (List.forall_mem_cons.mpr ⟨ok_X2_make, (List.forall_mem_cons.mpr ⟨ok_X2_isSpent, (List.forall_mem_cons.mpr ⟨ok_X2_made, (List.forall_mem_cons.mpr ⟨ok_X2_takeWord, (List.forall_mem_cons.mpr ⟨ok_X2_takeMark, (List.forall_mem_cons.mpr ⟨ok_X2_open, (List.forall_mem_cons.mpr ⟨ok_X2_close, (List.forall_mem_cons.mpr ⟨ok_X2_takeBar, (List.forall_mem_cons.mpr ⟨ok_X2_takePoint, (List.forall_mem_cons.mpr ⟨ok_X2_startLevel, (List.forall_mem_cons.mpr ⟨ok_X2_startRow, (List.forall_mem_cons.mpr ⟨ok_X2_appendPiece, (List.forall_mem_cons.mpr ⟨ok_X2_endRow, (List.forall_mem_cons.mpr ⟨ok_X3_init, (List.forall_mem_cons.mpr ⟨ok_X3_clear, (List.forall_mem_cons.mpr ⟨ok_X3_size, (List.forall_mem_cons.mpr ⟨ok_X3_byteAt, (List.forall_mem_cons.mpr ⟨ok_X3_parsedAt, (List.forall_mem_cons.mpr ⟨ok_X3_put, (List.forall_mem_cons.mpr ⟨ok_X3_write, (List.forall_mem_cons.mpr ⟨ok_X3_enclose, (List.forall_mem_cons.mpr ⟨ok_X3_shown, (List.forall_mem_cons.mpr ⟨ok_X3_letterShown, (List.forall_mem_cons.mpr ⟨ok_X3_parse, (List.forall_mem_cons.mpr ⟨ok_X3_bareReading, (List.forall_mem_cons.mpr ⟨ok_X4_init, (List.forall_mem_cons.mpr ⟨ok_X4_isWord, (List.forall_mem_cons.mpr ⟨ok_X4_put, (List.forall_mem_cons.mpr ⟨ok_X4_size, (List.forall_mem_cons.mpr ⟨ok_X4_has, (List.forall_mem_cons.mpr ⟨ok_X4_mayBeOne, (List.forall_mem_cons.mpr ⟨ok_X4_sort, (List.forall_mem_cons.mpr ⟨ok_X4_belongs, (List.forall_mem_cons.mpr ⟨ok_X4_groupOf, (List.forall_mem_cons.mpr ⟨ok_X4_fatherOf, (List.forall_mem_cons.mpr ⟨ok_X4_isAhead, (List.forall_mem_cons.mpr ⟨ok_X5_init, (List.forall_mem_cons.mpr ⟨ok_X5_told, (List.forall_mem_cons.mpr ⟨ok_X5_packed, (List.forall_mem_cons.mpr ⟨ok_X5_kindOf, (List.forall_mem_cons.mpr ⟨ok_X5_mayOf, (List.forall_mem_cons.mpr ⟨ok_X5_isUnder, (List.forall_mem_cons.mpr ⟨ok_X5_putHand, (List.forall_mem_cons.mpr ⟨ok_X5_hands, (List.forall_mem_cons.mpr ⟨ok_X5_hasHand, (List.forall_mem_cons.mpr ⟨ok_X5_index, (List.forall_mem_cons.mpr ⟨ok_X5_at, (List.forall_mem_cons.mpr ⟨ok_X5_put, (List.forall_mem_cons.mpr ⟨ok_X5_leader, (List.forall_mem_cons.mpr ⟨ok_X5_leading, (List.forall_mem_cons.mpr ⟨ok_X5_dissenters, (List.forall_mem_cons.mpr ⟨ok_X6_init, (List.forall_mem_cons.mpr ⟨ok_X6_put, (List.forall_mem_cons.mpr ⟨ok_X6_size, (List.forall_mem_cons.mpr ⟨ok_X6_has, (List.forall_mem_cons.mpr ⟨ok_X6_hasLine, (List.forall_mem_cons.mpr ⟨ok_X6_hasPlace, (List.forall_mem_cons.mpr ⟨ok_X6_linesOf, (List.forall_mem_cons.mpr ⟨ok_X6_placesOf, (List.forall_mem_cons.mpr ⟨ok_X7_init, (List.forall_mem_cons.mpr ⟨ok_X7_clear, (List.forall_mem_cons.mpr ⟨ok_X7_add, (List.forall_mem_cons.mpr ⟨ok_X7_isWay, (List.forall_mem_cons.mpr ⟨ok_X7_letterOn, (List.forall_mem_cons.mpr ⟨ok_X7_countWays, (List.forall_mem_cons.mpr ⟨ok_X7_findWay, (List.forall_mem_cons.mpr ⟨ok_X7_carryNothing, (List.forall_mem_cons.mpr ⟨ok_X7_carry, (List.forall_mem_cons.mpr ⟨ok_X7_carriedAt, (List.forall_mem_cons.mpr ⟨ok_X8_init, (List.forall_mem_cons.mpr ⟨ok_X8_append, (List.forall_mem_cons.mpr ⟨ok_X8_clear, (List.forall_mem_cons.mpr ⟨ok_X8_size, (List.forall_mem_cons.mpr ⟨ok_X8_byteAt, (List.forall_mem_cons.mpr ⟨ok_X8_lettersFrom, (List.forall_mem_cons.mpr ⟨ok_X8_letterOf, (List.forall_mem_cons.mpr ⟨ok_X9_init, (List.forall_mem_cons.mpr ⟨ok_X9_clear, (List.forall_mem_cons.mpr ⟨ok_X9_size, (List.forall_mem_cons.mpr ⟨ok_X9_head, (List.forall_mem_cons.mpr ⟨ok_X9_tail, (List.forall_mem_cons.mpr ⟨ok_X9_letter, (List.forall_mem_cons.mpr ⟨ok_X9_codeAt, (List.forall_mem_cons.mpr ⟨ok_X9_lengthOf, (List.forall_mem_cons.mpr ⟨ok_X9_add, (List.forall_mem_cons.mpr ⟨ok_X9_addAll, (List.forall_mem_cons.mpr ⟨ok_X9_addPairs, (List.forall_mem_cons.mpr ⟨ok_X9_addPair, (List.forall_mem_cons.mpr ⟨ok_X9_copy, (List.forall_mem_cons.mpr ⟨ok_X10_init, (List.forall_mem_cons.mpr ⟨ok_X10_has, (List.forall_mem_cons.mpr ⟨ok_X10_isMissing, (List.forall_mem_cons.mpr ⟨ok_X10_sizeOf, (List.forall_mem_cons.mpr ⟨ok_X10_put, (List.forall_mem_cons.mpr ⟨ok_X10_set, (List.forall_mem_cons.mpr ⟨ok_X10_byteAt, (List.forall_mem_cons.mpr ⟨ok_X11_init, (List.forall_mem_cons.mpr ⟨ok_X11_stone, (List.forall_mem_cons.mpr ⟨ok_X11_hand, (List.forall_mem_cons.mpr ⟨ok_X11_read, (List.forall_mem_cons.mpr ⟨ok_X11_forget, (List.forall_mem_cons.mpr ⟨ok_X11_sign, (List.forall_mem_cons.mpr ⟨ok_X11_feed, (List.forall_mem_cons.mpr ⟨ok_X11_formula, (List.forall_mem_cons.mpr ⟨ok_X11_texts, (List.forall_mem_cons.mpr ⟨ok_X11_text, (List.forall_mem_cons.mpr ⟨ok_X11_ways, (List.forall_mem_cons.mpr ⟨ok_X11_way, (List.forall_mem_cons.mpr ⟨ok_X11_carried, (List.forall_mem_cons.mpr ⟨ok_X11_fits, (List.forall_mem_cons.mpr ⟨ok_X11_textsOf, (List.forall_mem_cons.mpr ⟨ok_X11_layBare, (List.forall_mem_cons.mpr ⟨ok_X11_layBareMore, (List.forall_mem_cons.mpr ⟨ok_X11_edge, (List.forall_mem_cons.mpr ⟨ok_X11_tolerance, (List.forall_mem_cons.mpr ⟨ok_X11_room, (List.forall_mem_cons.mpr ⟨ok_X11_best, (List.forall_mem_cons.mpr ⟨ok_X11_join, (List.forall_mem_cons.mpr ⟨ok_X11_part, (List.forall_mem_cons.mpr ⟨ok_X11_joined, (List.forall_mem_cons.mpr ⟨ok_X11_whole, (List.forall_mem_cons.mpr ⟨ok_X11_isSide, (List.forall_mem_cons.mpr ⟨ok_X11_years, (List.forall_mem_cons.mpr ⟨ok_X11_bound, (List.forall_mem_cons.mpr ⟨ok_X11_loose, (List.forall_mem_cons.mpr ⟨ok_X11_span, (List.forall_mem_cons.mpr ⟨ok_X11_clash, (List.forall_mem_cons.mpr ⟨ok_X11_person, (List.forall_mem_cons.mpr ⟨ok_X11_one, (List.forall_mem_cons.mpr ⟨ok_X11_group, (List.forall_mem_cons.mpr ⟨ok_X11_father, (List.forall_mem_cons.mpr ⟨ok_X11_print, (List.forall_mem_cons.mpr ⟨ok_X11_printed, (List.forall_mem_cons.mpr ⟨ok_X11_back, (List.forall_mem_cons.mpr ⟨ok_X11_count, (List.forall_mem_cons.mpr ⟨ok_X11_isFormulaOrNone, (List.forall_mem_cons.mpr ⟨ok_X11_setPage, (List.forall_mem_cons.mpr ⟨ok_X11_tray, (List.forall_mem_cons.mpr ⟨ok_X11_cell, (List.forall_mem_cons.mpr ⟨ok_X11_lay, (List.forall_mem_cons.mpr ⟨ok_X11_taken, (List.forall_mem_cons.mpr ⟨ok_X12_init, (List.forall_mem_cons.mpr ⟨ok_X12_isIn, (List.forall_mem_cons.mpr ⟨ok_X12_isStone, (List.forall_mem_cons.mpr ⟨ok_X12_isLine, (List.forall_mem_cons.mpr ⟨ok_X12_isPlace, (List.forall_mem_cons.mpr ⟨ok_X12_at, (List.forall_mem_cons.mpr ⟨ok_X12_stone, (List.forall_mem_cons.mpr ⟨ok_X12_hand, (List.forall_mem_cons.mpr ⟨ok_X12_reads, (List.forall_mem_cons.mpr ⟨ok_X12_read, (List.forall_mem_cons.mpr ⟨ok_X12_forget, (List.forall_mem_cons.mpr ⟨ok_X12_handOf, (List.forall_mem_cons.mpr ⟨ok_X12_kindOf, (List.forall_mem_cons.mpr ⟨ok_X12_mayOf, (List.forall_mem_cons.mpr ⟨ok_X12_sign, (List.forall_mem_cons.mpr ⟨ok_X12_feed, (List.forall_mem_cons.mpr ⟨ok_X12_isLetter, (List.forall_mem_cons.mpr ⟨ok_X12_token, (List.forall_mem_cons.mpr ⟨ok_X12_faults, (List.forall_mem_cons.mpr ⟨ok_X12_isAlike, (List.forall_mem_cons.mpr ⟨ok_X12_keeps, (List.forall_mem_cons.mpr ⟨ok_X12_copies, (List.forall_mem_cons.mpr ⟨ok_X12_all, (List.forall_mem_cons.mpr ⟨ok_X12_row, (List.forall_mem_cons.mpr ⟨ok_X12_joins, (List.forall_mem_cons.mpr ⟨ok_X12_piece, (List.forall_mem_cons.mpr ⟨ok_X12_isAhead, (List.forall_mem_cons.mpr ⟨ok_X12_formula, (List.forall_mem_cons.mpr ⟨ok_X12_isFormula, (List.forall_mem_cons.mpr ⟨ok_X12_texts, (List.forall_mem_cons.mpr ⟨ok_X12_told, (List.forall_mem_cons.mpr ⟨ok_X12_text, (List.forall_mem_cons.mpr ⟨ok_X12_letterAt, (List.forall_mem_cons.mpr ⟨ok_X12_goes, (List.forall_mem_cons.mpr ⟨ok_X12_waysOf, (List.forall_mem_cons.mpr ⟨ok_X12_ways, (List.forall_mem_cons.mpr ⟨ok_X12_way, (List.forall_mem_cons.mpr ⟨ok_X12_carriedOf, (List.forall_mem_cons.mpr ⟨ok_X12_carried, (List.forall_mem_cons.mpr ⟨ok_X12_fits, (List.forall_mem_cons.mpr ⟨ok_X12_edgeAt, (List.forall_mem_cons.mpr ⟨ok_X12_parts, (List.forall_mem_cons.mpr ⟨ok_X12_edge, (List.forall_mem_cons.mpr ⟨ok_X12_tolerance, (List.forall_mem_cons.mpr ⟨ok_X12_roomOf, (List.forall_mem_cons.mpr ⟨ok_X12_room, (List.forall_mem_cons.mpr ⟨ok_X12_bestOf, (List.forall_mem_cons.mpr ⟨ok_X12_best, (List.forall_mem_cons.mpr ⟨ok_X12_join, (List.forall_mem_cons.mpr ⟨ok_X12_part, (List.forall_mem_cons.mpr ⟨ok_X12_joined, (List.forall_mem_cons.mpr ⟨ok_X12_whole, (List.forall_mem_cons.mpr ⟨ok_X12_years, (List.forall_mem_cons.mpr ⟨ok_X12_bound, (List.forall_mem_cons.mpr ⟨ok_X12_loose, (List.forall_mem_cons.mpr ⟨ok_X12_clashes, (List.forall_mem_cons.mpr ⟨ok_X12_clashAll, (List.forall_mem_cons.mpr ⟨ok_X12_span, (List.forall_mem_cons.mpr ⟨ok_X12_clash, (List.forall_mem_cons.mpr ⟨ok_X12_isWord, (List.forall_mem_cons.mpr ⟨ok_X12_person, (List.forall_mem_cons.mpr ⟨ok_X12_mayBeOne, (List.forall_mem_cons.mpr ⟨ok_X12_isPerson, (List.forall_mem_cons.mpr ⟨ok_X12_one, (List.forall_mem_cons.mpr ⟨ok_X12_findGroups, (List.forall_mem_cons.mpr ⟨ok_X12_joinsGroup, (List.forall_mem_cons.mpr ⟨ok_X12_group, (List.forall_mem_cons.mpr ⟨ok_X12_father, (List.forall_mem_cons.mpr ⟨ok_X12_prints, (List.forall_mem_cons.mpr ⟨ok_X12_print, (List.forall_mem_cons.mpr ⟨ok_X12_printed, (List.forall_mem_cons.mpr ⟨ok_X12_isSign, (List.forall_mem_cons.mpr ⟨ok_X12_bitOf, (List.forall_mem_cons.mpr ⟨ok_X12_backs, (List.forall_mem_cons.mpr ⟨ok_X12_back, (List.forall_mem_cons.mpr ⟨ok_X12_count, (List.forall_mem_cons.mpr ⟨ok_X12_tray, (List.forall_mem_cons.mpr ⟨ok_X12_cell, (List.forall_mem_cons.mpr ⟨ok_X12_lay, (List.forall_mem_cons.mpr ⟨ok_X12_taken, (List.forall_mem_cons.mpr ⟨ok_J6_bitCount_0f7a4, (List.forall_mem_cons.mpr ⟨ok_J13_bitCount_95d88, (List.forall_mem_cons.mpr ⟨ok_J7_rangeCheck_23922, (List.forall_mem_cons.mpr ⟨ok_J7_fill_53178, (List.forall_mem_cons.mpr ⟨ok_J7_fill_eb02e, (List.forall_mem_cons.mpr ⟨ok_L_law, (fun _ h => absurd h List.not_mem_nil)⟩)⟩)⟩)⟩)⟩)⟩)⟩)⟩)⟩)⟩)⟩)⟩)⟩)⟩)⟩)⟩)⟩)⟩)⟩)⟩)⟩)⟩)⟩)⟩)⟩)⟩)⟩)⟩)⟩)⟩)⟩)⟩)⟩)⟩)⟩)⟩)⟩)⟩)⟩)⟩)⟩)⟩)⟩)⟩)⟩)⟩)⟩)⟩)⟩)⟩)⟩)⟩)⟩)⟩)⟩)⟩)⟩)⟩)⟩)⟩)⟩)⟩)⟩)⟩)⟩)⟩)⟩)⟩)⟩)⟩)⟩)⟩)⟩)⟩)⟩)⟩)⟩)⟩)⟩)⟩)⟩)⟩)⟩)⟩)⟩)⟩)⟩)⟩)⟩)⟩)⟩)⟩)⟩)⟩)⟩)⟩)⟩)⟩)⟩)⟩)⟩)⟩)⟩)⟩)⟩)⟩)⟩)⟩)⟩)⟩)⟩)⟩)⟩)⟩)⟩)⟩)⟩)⟩)⟩)⟩)⟩)⟩)⟩)⟩)⟩)⟩)⟩)⟩)⟩)⟩)⟩)⟩)⟩)⟩)⟩)⟩)⟩)⟩)⟩)⟩)⟩)⟩)⟩)⟩)⟩)⟩)⟩)⟩)⟩)⟩)⟩)⟩)⟩)⟩)⟩)⟩)⟩)⟩)⟩)⟩)⟩)⟩)⟩)⟩)⟩)⟩)⟩)⟩)⟩)⟩)⟩)⟩)⟩)⟩)⟩)⟩)⟩)⟩)⟩)⟩)⟩)⟩)⟩)⟩)⟩)⟩)⟩)⟩)⟩)⟩)⟩)⟩)⟩)⟩)⟩)⟩)⟩)⟩)⟩)⟩)⟩)⟩)⟩)⟩)⟩)⟩)⟩)⟩)⟩)⟩)⟩)⟩)⟩)⟩)⟩)⟩)⟩)⟩)⟩)⟩)⟩)⟩)⟩)⟩)⟩)⟩)⟩)⟩)⟩)⟩)⟩)⟩)⟩)⟩)⟩)⟩)⟩)⟩)⟩)⟩)⟩)⟩)⟩)⟩)⟩)⟩)⟩)⟩)⟩)⟩)⟩)⟩)
