/-! THE PLAIN MACHINE: cells by number; what holds ahead of a method's way, as a proposition. 0: the script, 1: the table of kinds; from 2 on the cells in the order in which they come. -/
/-- how many cells there are (from 2 on), the sizes of the rows of no fixed size, the whole numbers, the longs, the references -/
abbrev qM : Type := Nat × (Nat → Nat) × (Nat → Nat → Int32) × (Nat → Nat → Int64) × (Nat → Nat → Option Nat)
abbrev qP : Type := Option Value → qM → Prop
abbrev qC : Type := Nat → List Value → qM → qP → Prop
abbrev qX : Type := Nat → List (Nat × Value) → List Value → Nat → Nat → qM → Prop
def qOc (T : qT) : Nat := T.1.1
def qY (T : qT) : MethodName := T.1.2.1
def qB (T : qT) : ByteArray := T.1.2.2.1
def qLo (T : qT) : Nat := T.1.2.2.2.1
def qRt (T : qT) : Option FieldType := T.1.2.2.2.2
def qNa (T : qT) : Nat := T.2.1.1
def qMc (T : qT) : Nat := T.2.1.2.1
def qMs (T : qT) : Nat := T.2.1.2.2.1
def qPh (T : qT) : Bool := T.2.1.2.2.2
def qBl (T : qT) : List (Nat × List (Nat × Instr × Nat)) := T.2.2
def qTab (j : Nat) : qT := qAll.getD j m_X0_init
def qFind : List (Nat × Instr × Nat) → Nat → Option (Instr × Nat)
  | [], _ => none
  | (p, x) :: r, pc => bif Nat.beq p pc then some x else qFind r pc
def qFindB : List (Nat × List (Nat × Instr × Nat)) → Nat → Option (Instr × Nat)
  | [], _ => none
  | (e, b) :: r, pc => bif Nat.ble pc e then qFind b pc else qFindB r pc
/-- the kind of a cell: 0 .. 12 an object of that class, 13 bytes, 14 ints, 15 longs, 16 booleans, 17 references, 18 ints that nobody writes -/
def qK (k : Nat) : Nat := bif Nat.ble qBase k then (bif Nat.beq ((k - qBase) % 2) 0 then 9 else 15) else qKl.getD k 99
def qSz (k : Nat) : Option Nat := qSl.getD k none
def qLen (N : Nat → Nat) (k : Nat) : Nat := match qSz k with
  | some n => n
  | none => N k
def qNf (ci : Nat) : Nat := (qTfl.getD ci []).length
def qTf (ci f : Nat) : Nat := (qTfl.getD ci []).getD f 0
/-- the reference fields that are set once and for all -/
def qG (k f : Nat) : Option Nat := bif Nat.beq (qK k) 9 then (bif Nat.beq f 0 then some (k + 1) else none) else (qGl.getD (qK k) []).getD f none
def qStat (M : qM) : Prop := qBase ≤ M.1 + 2 ∧ ∀ k : Nat, k < M.1 + 2 → ∀ f c : Nat, qG k f = some c → M.2.2.2.2 k f = some c
def q2 {α : Type} (f : Nat → Nat → α) (a j : Nat) (v : α) : Nat → Nat → α := fun b i => if b = a then (if i = j then v else f b i) else f b i
def qRow {α : Type} (f : Nat → Nat → α) (a : Nat) (g : Nat → α) : Nat → Nat → α := fun b => if b = a then g else f b
def qUp (f : Nat → Nat) (a v : Nat) : Nat → Nat := fun b => if b = a then v else f b
def qIs (a ci : Nat) (k : Prop) : Prop := match Nat.beq (qK a) ci with
  | true => k
  | false => False
/-- the cell is there: told by its number alone where all stand -/
def qIn (ph : Bool) (a : Nat) (M : qM) (k : Prop) : Prop := match (ph && Nat.blt a qBase) with
  | true => k
  | false => a < M.1 + 2 ∧ k
def qIf (b : Bool) (k : Prop) : Prop := match b with
  | true => k
  | false => False
/-! locals -/
def qLk : List (Nat × Value) → Nat → Option Value
  | [], _ => none
  | (i, v) :: r, k => bif Nat.beq i k then some v else qLk r k
def qC2 : Value → Bool
  | .long _ => true
  | .double _ => true
  | _ => false
def qRm1 (k : Nat) : List (Nat × Value) → List (Nat × Value)
  | [] => []
  | (i, v) :: r => bif (Nat.beq i k || (Nat.beq (i + 1) k && qC2 v)) then qRm1 k r else (i, v) :: qRm1 k r
def qRm2 (k : Nat) : List (Nat × Value) → List (Nat × Value)
  | [] => []
  | (i, v) :: r => bif (Nat.beq i k || (Nat.beq i (k + 1) || (Nat.beq (i + 1) k && qC2 v))) then qRm2 k r else (i, v) :: qRm2 k r
def qLdI (ls : List (Nat × Value)) (k : Nat) (f : Int32 → Prop) : Prop := match qLk ls k with
  | some (.int x) => f x
  | _ => False
def qLdL (ls : List (Nat × Value)) (k : Nat) (f : Int64 → Prop) : Prop := match qLk ls k with
  | some (.long x) => f x
  | _ => False
def qLdA (ls : List (Nat × Value)) (k : Nat) (f : Value → Prop) : Prop := match qLk ls k with
  | some (.ref a) => f (.ref a)
  | some .null => f .null
  | _ => False
/-! what lies on the stack -/
def qI1 (st : List Value) (f : Int32 → List Value → Prop) : Prop := match st with
  | .int x :: r => f x r
  | _ => False
def qI2 (st : List Value) (f : Int32 → Int32 → List Value → Prop) : Prop := match st with
  | .int y :: .int x :: r => f x y r
  | _ => False
def qL1 (st : List Value) (f : Int64 → List Value → Prop) : Prop := match st with
  | .long x :: r => f x r
  | _ => False
def qL2 (st : List Value) (f : Int64 → Int64 → List Value → Prop) : Prop := match st with
  | .long y :: .long x :: r => f x y r
  | _ => False
def qLI (st : List Value) (f : Int64 → Int32 → List Value → Prop) : Prop := match st with
  | .int y :: .long x :: r => f x y r
  | _ => False
def qA1 (st : List Value) (f : Nat → List Value → Prop) : Prop := match st with
  | .ref a :: r => f a r
  | _ => False
def qAn (st : List Value) (g : List Value → Prop) (f : Nat → List Value → Prop) : Prop := match st with
  | .ref a :: r => f a r
  | .null :: r => g r
  | _ => False
def qAI (st : List Value) (f : Nat → Int32 → List Value → Prop) : Prop := match st with
  | .int i :: .ref a :: r => f a i r
  | _ => False
def qAII (st : List Value) (f : Nat → Int32 → Int32 → List Value → Prop) : Prop := match st with
  | .int x :: .int i :: .ref a :: r => f a i x r
  | _ => False
def qAIL (st : List Value) (f : Nat → Int32 → Int64 → List Value → Prop) : Prop := match st with
  | .long x :: .int i :: .ref a :: r => f a i x r
  | _ => False
def qAIA (st : List Value) (f : Nat → Int32 → Option Nat → List Value → Prop) : Prop := match st with
  | .ref v :: .int i :: .ref a :: r => f a i (some v) r
  | .null :: .int i :: .ref a :: r => f a i none r
  | _ => False
def qIA (st : List Value) (f : Nat → Int32 → List Value → Prop) : Prop := match st with
  | .int x :: .ref a :: r => f a x r
  | _ => False
def qVA (st : List Value) (f : Nat → Option Nat → List Value → Prop) : Prop := match st with
  | .ref v :: .ref a :: r => f a (some v) r
  | .null :: .ref a :: r => f a none r
  | _ => False
def qCp (st : List Value) (f : Nat → Int32 → Nat → Int32 → Int32 → List Value → Prop) : Prop := match st with
  | .int n :: .int dp :: .ref d :: .int sp :: .ref s :: r => f s sp d dp n r
  | _ => False
def qCat : List Value → Nat
  | [] => 0
  | v :: r => qCat r + (bif qC2 v then 2 else 1)
def qTake : Nat → List Value → List Value → (List Value → List Value → Prop) → Prop
  | 0, acc, st, k => k acc st
  | n + 1, acc, v :: st, k => qTake n (v :: acc) st k
  | _ + 1, _, [], _ => False
def qTabs (x : Int32) (X : Nat → Prop) : Int → List Int → Prop
  | _, [] => True
  | lo, t :: r => (x.toInt = lo → X t.toNat) ∧ qTabs x X (lo + 1) r
def qLks (x : Int32) (X : Nat → Prop) (d : Int) : List (Int × Int) → Prop
  | [] => X d.toNat
  | (k, t) :: r => (x.toInt = k → X t.toNat) ∧ (¬ x.toInt = k → qLks x X d r)
def qPhCall (T T' : qT) (M : qM) (k : Prop) : Prop := match (!(qPh T) && qPh T') with
  | true => qStat M ∧ k
  | false => k
def qPhBack (T T' : qT) (M : qM) (k : Prop) : Prop := match (qPh T && !(qPh T')) with
  | true => qStat M ∧ k
  | false => k
def qMath (j : Nat) (st : List Value) (k : Int32 → List Value → Prop) : Prop := match Nat.beq j 9993 with
  | true => qI1 st fun x r => qIf (Nat.ble (qCat r) 8) (k (if 0 ≤ x then x else 0 - x) r)
  | false => match Nat.beq j 9992 with
    | true => qI2 st fun x y r => qIf (Nat.ble (qCat r) 8) (k (if y < x then y else x) r)
    | false => match Nat.beq j 9991 with
      | true => qI2 st fun x y r => qIf (Nat.ble (qCat r) 8) (k (if x < y then y else x) r)
      | false => False
def qRefs (m : Nat) : List Value → Prop
  | [] => True
  | .ref r :: l => r < m ∧ qRefs m l
  | .int _ :: l => qRefs m l
  | .long _ :: l => qRefs m l
  | .float _ :: l => qRefs m l
  | .double _ :: l => qRefs m l
  | .null :: l => qRefs m l
  | .retAddr _ :: l => qRefs m l
def qRfOk (m : Nat) : Option Nat → Prop
  | some b => b < m
  | none => True
def qMake (T' : qT) (m : Nat) (ls : List (Nat × Value)) (st : List Value) (k : Prop) : Prop := match Nat.beq (qMc T') 0 with
  | true => k
  | false => (qRefs m st ∧ qRefs m (ls.map Prod.snd)) ∧ k
/-- a call of a method of ours: its words, its room, its own way, and on behind it -/
def qCall (T : qT) (cs : qC) (j : Nat) (as : List Value) (ls : List (Nat × Value)) (rest : List Value) (M : qM) (uc us : Nat) (X : List Value → Nat → Nat → qM → Prop) : Prop :=
  qIf (Nat.ble (qCat rest) 8) (qMake (qTab j) (M.1 + 2) ls rest (qPhCall T (qTab j) M ((uc + qMc (qTab j) ≤ qMc T ∧ us + qMs (qTab j) ≤ qMs T) ∧
    cs j as M (fun r M' => qPhBack T (qTab j) M' (X (r.toList ++ rest) (uc + qMc (qTab j)) (us + qMs (qTab j)) M')))))
