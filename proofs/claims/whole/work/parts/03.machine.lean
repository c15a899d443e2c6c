/-! ===== the abstract machine: cells by number, instructions with what they link ===== -/
abbrev zmI : Type := Instr × Nat × (Nat × Nat × Nat × Nat × Nat) × Int32 × Int64
abbrev zmS : Type := (Nat → Nat → Int32) × (Nat → Nat → Int64) × (Nat → Nat → Option Nat)
abbrev zmH : Type := (Nat × Nat) × zmS
abbrev zmR : Type := (Nat × List Value × List Value × zmH) ⊕ (Option Value) ⊕ (Nat × List Value × List Value)
abbrev zm0 (i : Instr) (n : Nat) : zmI := (i, n, (0, 0, 0, 0, 0), 0, 0)
abbrev zmi (i : Instr) (n : Nat) (v : Int32) : zmI := (i, n, (0, 0, 0, 0, 0), v, 0)
abbrev zml (i : Instr) (n : Nat) (v : Int64) : zmI := (i, n, (0, 0, 0, 0, 0), 0, v)
abbrev zmc (i : Instr) (n : Nat) (v : Int32) (pos : Nat) : zmI := (i, n, (0, 0, 0, pos, 0), v, 0)
abbrev zmd (i : Instr) (n : Nat) (v : Int64) (pos : Nat) : zmI := (i, n, (0, 0, 0, pos, 0), 0, v)
abbrev zmr (i : Instr) (n a b c d e : Nat) : zmI := (i, n, (a, b, c, d, e), 0, 0)
/-- a word list read by sixteens -/
def zmAt {α : Type} (d : α) (t : List (List α)) (k : Nat) : α := (t.getD (k / 16) []).getD (k % 16) d
def zmLayT : List (List (Nat × Nat)) := [[(40, 0), (40, 8), (41, 9), (41, 9), (30, 0), (30, 0), (30, 0), (30, 0), (30, 0), (42, 0), (42, 4), (42, 8), (42, 10), (42, 1), (11, 17), (20, 260)], [(8, 5), (20, 30), (20, 40), (20, 4), (8, 5), (20, 30), (20, 40), (20, 4), (9, 3), (20, 121), (20, 120), (6, 3), (20, 100), (7, 7), (20, 10), (10, 8)], [(20, 480), (20, 16), (20, 16), (20, 16), (20, 32), (24, 4), (10, 8), (20, 480), (20, 16), (20, 16), (20, 16), (20, 32), (4, 6), (20, 0), (10, 8), (20, 480)], [(20, 16), (20, 16), (20, 16), (20, 32), (0, 4), (21, 38720), (20, 38720), (1, 10), (20, 9), (20, 90), (21, 90), (21, 45), (20, 4), (20, 4), (2, 6), (20, 8)], [(20, 9), (3, 3), (5, 1), (20, 16), (5, 1), (20, 16), (10, 8), (20, 480), (20, 16), (20, 16), (20, 16), (20, 32), (10, 8), (20, 480), (20, 16), (20, 16)], [(20, 16), (20, 32), (10, 8), (20, 480), (20, 16), (20, 16), (20, 16), (20, 32), (10, 8), (20, 480), (20, 16), (20, 16), (20, 16), (20, 32), (12, 93), (22, 260)], [(20, 120), (20, 120), (20, 16), (20, 16), (20, 260), (20, 260), (20, 16), (20, 16), (20, 16), (20, 16), (20, 1300), (20, 5), (20, 80), (20, 80), (20, 80), (20, 80)], [(20, 260), (20, 10), (23, 43560), (21, 43560), (22, 43560), (20, 20), (20, 20), (20, 4), (20, 4), (21, 20), (21, 20), (20, 200), (20, 200), (21, 200), (21, 200), (20, 8)], [(20, 8), (20, 8), (20, 8), (20, 10), (20, 10), (20, 10), (20, 9), (20, 8), (20, 4), (20, 64), (20, 64), (20, 8), (20, 8), (20, 8), (20, 8), (20, 10)], [(20, 10), (20, 10), (20, 4)]]
def zmOwnT : List (List Nat) := [[98, 0, 0, 0, 0, 0, 0, 0, 1, 1, 1, 1, 1, 1, 1, 1], [1, 1, 1, 1, 2, 2, 2, 2, 2, 2, 2, 3, 3, 3, 3, 3], [3, 3, 4, 4, 4, 4, 4, 4, 4, 4, 4, 4, 4, 4, 4, 4], [5, 5, 5, 5, 6, 6, 6, 6, 7, 7, 7, 7, 7, 7, 7, 7], [7, 7, 8, 8, 8, 8, 8, 8, 8, 8, 8, 8, 8, 9, 9, 9], [9, 9, 10, 10, 10, 10, 10, 10, 10, 10, 10, 10, 11, 11, 11, 11], [11, 11, 11, 11, 11, 11, 11, 11, 11, 11, 11, 11, 11, 11, 11, 11], [11, 11, 11, 11, 11, 11, 11, 11, 11, 11, 11, 11, 11, 11, 11, 11], [11, 11, 11, 11, 11, 11, 11, 11, 11, 11, 11, 11, 11, 11, 11, 11], [11, 11, 11, 11, 11, 12, 12, 12, 12, 12, 12, 12, 12, 12, 12, 12], [12, 12, 12, 12, 12, 12, 12, 12, 12, 12, 12, 12, 12, 12, 12, 12], [12, 12, 12, 12, 12, 12, 12, 12, 12, 12, 12, 12, 12, 12, 12, 12], [12, 12, 12, 12, 12, 12, 12, 12, 12, 12, 12, 12, 12, 12, 12, 12], [12, 12, 12, 12, 12, 12, 12, 12, 12, 12, 12, 12, 12, 12, 12, 12], [12, 12, 12, 12, 12, 12, 12, 12, 12, 12, 12, 12, 12, 12, 12, 12], [12, 12, 12, 12, 12, 12, 12, 12, 12, 12, 12, 12, 12, 12, 12, 12], [12, 12, 12, 12, 12, 12, 12, 12, 12, 12, 12, 12, 12, 98, 98, 98], [98, 98, 98, 98, 30, 30, 30, 30, 30, 30, 98, 98, 98, 98, 98, 98], [98, 98, 98, 98, 98]]
def zmMlT : List (List Nat) := [[4, 2, 13, 3, 15, 6, 6, 16, 2, 3, 6, 2, 3, 5, 6, 5], [12, 8, 6, 4, 3, 1, 2, 2, 4, 6, 2, 2, 2, 7, 11, 7], [10, 11, 1, 6, 2, 6, 4, 3, 6, 4, 3, 1, 1, 1, 2, 2], [1, 5, 7, 4, 1, 6, 6, 1, 4, 1, 7, 3, 4, 5, 8, 4], [2, 3, 1, 2, 1, 6, 2, 6, 5, 2, 7, 1, 4, 1, 9, 3], [5, 4, 1, 1, 2, 2, 1, 1, 3, 5, 9, 3, 2, 2, 6, 3], [3, 4, 5, 7, 10, 8, 10, 8, 7, 12, 8, 10, 7, 9, 7, 6], [8, 5, 7, 8, 7, 2, 5, 3, 2, 6, 2, 1, 1, 3, 3, 3], [4, 1, 3, 5, 6, 6, 3, 2, 1, 4, 1, 1, 1, 2, 1, 1], [2, 2, 3, 2, 4, 1, 3, 2, 2, 2, 4, 10, 7, 3, 6, 2], [1, 4, 4, 1, 5, 2, 4, 1, 1, 3, 2, 2, 3, 2, 1, 1], [1, 2, 2, 3, 3, 1, 3, 2, 2, 1, 2, 3, 6, 3, 1, 2], [3, 3, 8, 5, 4, 1, 1, 1, 1, 4, 1, 4, 4, 6, 3, 3], [4, 6, 4, 2, 3, 7, 10, 3, 6, 14, 7, 5, 1, 10, 9, 11], [6, 3, 5, 5, 15, 5, 9, 7, 1, 4, 12, 14, 7, 5, 12, 9], [9, 13, 13, 6, 5, 8, 5, 5, 5, 7, 10, 1, 6, 8, 2, 4], [9, 4, 2, 7, 5, 6, 2, 4, 1, 1, 4, 3, 2, 2, 1, 1], [2, 1, 2, 2, 1, 2, 3, 1, 1, 3, 1, 4, 6, 2, 1, 4], [4, 5, 7, 3, 4]]
def zmLay (k : Nat) : Nat × Nat := zmAt (99, 0) zmLayT k
def zmLen (k : Nat) (x : zmH) : Nat := if k = 0 then x.1.2 else (zmLay k).2
/-- what a cell is: 99 where there is none yet -/
def zmKd (k : Nat) (x : zmH) : Nat := bif Nat.blt k x.1.1 then (zmLay k).1 else 99
def gI (x : zmH) (k j : Nat) : Int32 := x.2.1 k j
def gL (x : zmH) (k j : Nat) : Int64 := x.2.2.1 k j
def gR (x : zmH) (k j : Nat) : Option Nat := x.2.2.2 k j
def uI (f : Nat → Nat → Int32) (k j : Nat) (v : Int32) : Nat → Nat → Int32 := fun a b => if a = k ∧ b = j then v else f a b
def uL (f : Nat → Nat → Int64) (k j : Nat) (v : Int64) : Nat → Nat → Int64 := fun a b => if a = k ∧ b = j then v else f a b
def uR (f : Nat → Nat → Option Nat) (k j : Nat) (v : Option Nat) : Nat → Nat → Option Nat := fun a b => if a = k ∧ b = j then v else f a b
def sI (x : zmH) (k j : Nat) (v : Int32) : zmH := (x.1, uI x.2.1 k j v, x.2.2.1, x.2.2.2)
def sL (x : zmH) (k j : Nat) (v : Int64) : zmH := (x.1, x.2.1, uL x.2.2.1 k j v, x.2.2.2)
def sR (x : zmH) (k j : Nat) (v : Option Nat) : zmH := (x.1, x.2.1, x.2.2.1, uR x.2.2.2 k j v)
/-- a new cell, its fields or elements nought -/
def zmNew (x : zmH) : zmH := ((x.1.1 + 1, x.1.2), (fun a b => if a = x.1.1 then 0 else x.2.1 a b), (fun a b => if a = x.1.1 then 0 else x.2.2.1 a b), (fun a b => if a = x.1.1 then none else x.2.2.2 a b))
/-- n cells of a row of ints copied -/
def zmCpy (x : zmH) (s sp t tp n : Nat) : zmH := (x.1, (fun a b => if a = t ∧ tp ≤ b ∧ b < tp + n then x.2.1 s (sp + (b - tp)) else x.2.1 a b), x.2.2.1, x.2.2.2)
def zmJ : Value := .retAddr 0
def zmRf : Option Nat → Value
  | none => .null
  | some a => .ref a
def zmRd (ty k j : Nat) (x : zmH) : Value := match ty with
  | 0 => .int (gI x k j)
  | 1 => .long (gL x k j)
  | 2 => zmRf (gR x k j)
  | _ => .int (gI x k j)
/-- the first half of a long whose second half is written falls -/
def zmCl (L : List Value) : Nat → List Value
  | 0 => L
  | i + 1 => match L[i]? with
    | some (.long _) => L.set i zmJ
    | some (.double _) => L.set i zmJ
    | _ => L
def zmSt1 (L : List Value) (i : Nat) (v : Value) : List Value := (zmCl L i).set i v
def zmSt2 (L : List Value) (i : Nat) (v : Value) : List Value := ((zmCl L i).set i v).set (i + 1) zmJ
def zmArgs : List Value → List Value
  | [] => []
  | v :: r => match v with
    | .long a => .long a :: zmJ :: zmArgs r
    | .double a => .double a :: zmJ :: zmArgs r
    | w => w :: zmArgs r
def zmPad (n : Nat) (l : List Value) : List Value := l ++ List.replicate (n - l.length) zmJ
def zmLow (rest : List Value) : Bool := Nat.ble ((rest.map fun v => v.category).sum) 8
/-- the arguments have room among the locals -/
def zmFit (μ : Nat) (as : List Value) : Bool := Nat.ble (zmArgs as).length (zmAt 0 zmMlT μ)
def p1i (st : List Value) (f : Int32 → List Value → Option zmR) : Option zmR := match st with
  | .int a :: r => f a r
  | _ => none
def p2i (st : List Value) (f : Int32 → Int32 → List Value → Option zmR) : Option zmR := match st with
  | .int b :: .int a :: r => f a b r
  | _ => none
def p1l (st : List Value) (f : Int64 → List Value → Option zmR) : Option zmR := match st with
  | .long a :: r => f a r
  | _ => none
def p2l (st : List Value) (f : Int64 → Int64 → List Value → Option zmR) : Option zmR := match st with
  | .long b :: .long a :: r => f a b r
  | _ => none
def p1r (st : List Value) (f : Nat → List Value → Option zmR) : Option zmR := match st with
  | .ref a :: r => f a r
  | _ => none
/-- an array's element: index, row -/
def pix (st : List Value) (f : Int32 → Nat → List Value → Option zmR) : Option zmR := match st with
  | .int i :: .ref a :: r => f i a r
  | _ => none
def zmIn (i : Int32) (n : Nat) : Bool := !(decide (i < 0) || decide (n ≤ i.toNatClampNeg))
def zmGo (pc : Nat) (off : Int) : Nat := ((pc : Int) + off).toNat
def zmTs (pc : Nat) (d lo hi : Int) (os : Array Int) (v : Int32) : Nat := if v.toInt < lo ∨ hi < v.toInt then zmGo pc d else zmGo pc (os.toList.getD (v.toInt - lo).toNat d)
def zmLs (pc : Nat) (d : Int) (ps : Array (Int × Int)) (v : Int32) : Nat := zmGo pc (Op.lookupswitch.offset ps.toList d v.toInt)
def zmLd1 (L : List Value) (i : Nat) (f : Value → Option zmR) : Option zmR := match L[i]? with
  | some (.int a) => f (.int a)
  | _ => none
def zmLdl (L : List Value) (i : Nat) (f : Value → Option zmR) : Option zmR := match L[i]? with
  | some (.long a) => f (.long a)
  | _ => none
def zmLda (L : List Value) (i : Nat) (f : Value → Option zmR) : Option zmR := match L[i]? with
  | some (.ref a) => f (.ref a)
  | some .null => f .null
  | _ => none
def zmRecv (b μ : Nat) (x : zmH) : Bool := Nat.beq (zmKd b x) (zmAt 98 zmOwnT μ)
/-- one instruction: it goes on, returns, or calls -/
def zmX (i : zmI) (pc : Nat) (L st : List Value) (x : zmH) : Option zmR := match i.1 with
  | .aload n => zmLda L n fun v => some (.inl (pc + i.2.1, L, v :: st, x))
  | .aload_n n => zmLda L n.val fun v => some (.inl (pc + i.2.1, L, v :: st, x))
  | .iload n => zmLd1 L n fun v => some (.inl (pc + i.2.1, L, v :: st, x))
  | .iload_n n => zmLd1 L n.val fun v => some (.inl (pc + i.2.1, L, v :: st, x))
  | .lload n => zmLdl L n fun v => some (.inl (pc + i.2.1, L, v :: st, x))
  | .lload_n n => zmLdl L n.val fun v => some (.inl (pc + i.2.1, L, v :: st, x))
  | .iconst _ => some (.inl (pc + i.2.1, L, .int i.2.2.2.1 :: st, x))
  | .bipush _ => some (.inl (pc + i.2.1, L, .int i.2.2.2.1 :: st, x))
  | .sipush _ => some (.inl (pc + i.2.1, L, .int i.2.2.2.1 :: st, x))
  | .lconst _ => some (.inl (pc + i.2.1, L, .long i.2.2.2.2 :: st, x))
  | .ldc _ => match i.2.2.1.2.1 with
    | 0 => some (.inl (pc + i.2.1, L, .int i.2.2.2.1 :: st, x))
    | _ => some (.inl (pc + i.2.1, L, .ref i.2.2.1.1 :: st, x))
  | .ldc_w _ => some (.inl (pc + i.2.1, L, .int i.2.2.2.1 :: st, x))
  | .ldc2_w _ => some (.inl (pc + i.2.1, L, .long i.2.2.2.2 :: st, x))
  | .aconst_null => some (.inl (pc + i.2.1, L, .null :: st, x))
  | .istore n => p1i st fun a r => some (.inl (pc + i.2.1, zmSt1 L n (.int a), r, x))
  | .istore_n n => p1i st fun a r => some (.inl (pc + i.2.1, zmSt1 L n.val (.int a), r, x))
  | .astore n => match st with
    | .ref a :: r => some (.inl (pc + i.2.1, zmSt1 L n (.ref a), r, x))
    | .null :: r => some (.inl (pc + i.2.1, zmSt1 L n .null, r, x))
    | _ => none
  | .astore_n n => match st with
    | .ref a :: r => some (.inl (pc + i.2.1, zmSt1 L n.val (.ref a), r, x))
    | .null :: r => some (.inl (pc + i.2.1, zmSt1 L n.val .null, r, x))
    | _ => none
  | .lstore n => p1l st fun a r => some (.inl (pc + i.2.1, zmSt2 L n (.long a), r, x))
  | .lstore_n n => p1l st fun a r => some (.inl (pc + i.2.1, zmSt2 L n.val (.long a), r, x))
  | .iinc n k => zmLd1 L n fun v => match v with
    | .int a => some (.inl (pc + i.2.1, zmSt1 L n (.int (a + i.2.2.2.1)), st, x))
    | _ => none
  | .iadd => p2i st fun a b r => some (.inl (pc + i.2.1, L, .int (a + b) :: r, x))
  | .isub => p2i st fun a b r => some (.inl (pc + i.2.1, L, .int (a - b) :: r, x))
  | .imul => p2i st fun a b r => some (.inl (pc + i.2.1, L, .int (a * b) :: r, x))
  | .iand => p2i st fun a b r => some (.inl (pc + i.2.1, L, .int (a &&& b) :: r, x))
  | .ior => p2i st fun a b r => some (.inl (pc + i.2.1, L, .int (a ||| b) :: r, x))
  | .ixor => p2i st fun a b r => some (.inl (pc + i.2.1, L, .int (a ^^^ b) :: r, x))
  | .idiv => p2i st fun a b r => if b = 0 then none else some (.inl (pc + i.2.1, L, .int (a / b) :: r, x))
  | .irem => p2i st fun a b r => if b = 0 then none else some (.inl (pc + i.2.1, L, .int (a - a / b * b) :: r, x))
  | .ineg => p1i st fun a r => some (.inl (pc + i.2.1, L, .int (-a) :: r, x))
  | .ladd => p2l st fun a b r => some (.inl (pc + i.2.1, L, .long (a + b) :: r, x))
  | .lsub => p2l st fun a b r => some (.inl (pc + i.2.1, L, .long (a - b) :: r, x))
  | .lmul => p2l st fun a b r => some (.inl (pc + i.2.1, L, .long (a * b) :: r, x))
  | .ldiv => p2l st fun a b r => if b = 0 then none else some (.inl (pc + i.2.1, L, .long (a / b) :: r, x))
  | .lrem => p2l st fun a b r => if b = 0 then none else some (.inl (pc + i.2.1, L, .long (a - a / b * b) :: r, x))
  | .lneg => p1l st fun a r => some (.inl (pc + i.2.1, L, .long (-a) :: r, x))
  | .ishl => p2i st fun a b r => some (.inl (pc + i.2.1, L, .int (a <<< (b &&& 31)) :: r, x))
  | .ishr => p2i st fun a b r => some (.inl (pc + i.2.1, L, .int (a >>> (b &&& 31)) :: r, x))
  | .iushr => p2i st fun a b r => some (.inl (pc + i.2.1, L, .int ((a.toUInt32 >>> (b.toUInt32 &&& Int32.toUInt32 31)).toInt32) :: r, x))
  | .i2l => p1i st fun a r => some (.inl (pc + i.2.1, L, .long a.toInt64 :: r, x))
  | .l2i => p1l st fun a r => some (.inl (pc + i.2.1, L, .int a.toInt32 :: r, x))
  | .i2b => p1i st fun a r => some (.inl (pc + i.2.1, L, .int a.toInt8.toInt32 :: r, x))
  | .i2c => p1i st fun a r => some (.inl (pc + i.2.1, L, .int (a.toUInt32 % 65536).toInt32 :: r, x))
  | .lcmp => p2l st fun a b r => some (.inl (pc + i.2.1, L, .int (lg_cmp a b) :: r, x))
  | .dup => match st with
    | .int a :: r => some (.inl (pc + i.2.1, L, .int a :: .int a :: r, x))
    | .ref a :: r => some (.inl (pc + i.2.1, L, .ref a :: .ref a :: r, x))
    | _ => none
  | .dup2 => pix st fun a b r => some (.inl (pc + i.2.1, L, .int a :: .ref b :: .int a :: .ref b :: r, x))
  | .pop => p1i st fun _ r => some (.inl (pc + i.2.1, L, r, x))
  | .pop2 => p1l st fun _ r => some (.inl (pc + i.2.1, L, r, x))
  | .goto o => some (.inl (zmGo pc o, L, st, x))
  | .ifCond c o => p1i st fun a r => match c with
    | .eq => some (.inl (if a = 0 then zmGo pc o else pc + 3, L, r, x))
    | .ne => some (.inl (if a = 0 then pc + 3 else zmGo pc o, L, r, x))
    | .lt => some (.inl (if a < 0 then zmGo pc o else pc + 3, L, r, x))
    | .ge => some (.inl (if a < 0 then pc + 3 else zmGo pc o, L, r, x))
    | .gt => some (.inl (if 0 < a then zmGo pc o else pc + 3, L, r, x))
    | .le => some (.inl (if 0 < a then pc + 3 else zmGo pc o, L, r, x))
  | .if_icmp c o => p2i st fun a b r => match c with
    | .eq => some (.inl (if a = b then zmGo pc o else pc + 3, L, r, x))
    | .ne => some (.inl (if a = b then pc + 3 else zmGo pc o, L, r, x))
    | .lt => some (.inl (if a < b then zmGo pc o else pc + 3, L, r, x))
    | .ge => some (.inl (if a < b then pc + 3 else zmGo pc o, L, r, x))
    | .gt => some (.inl (if b < a then zmGo pc o else pc + 3, L, r, x))
    | .le => some (.inl (if b < a then pc + 3 else zmGo pc o, L, r, x))
  | .ifnull o => match st with
    | .ref _ :: r => some (.inl (pc + 3, L, r, x))
    | .null :: r => some (.inl (zmGo pc o, L, r, x))
    | _ => none
  | .ifnonnull o => match st with
    | .ref _ :: r => some (.inl (zmGo pc o, L, r, x))
    | .null :: r => some (.inl (pc + 3, L, r, x))
    | _ => none
  | .tableswitch d lo hi os => p1i st fun a r => some (.inl (zmTs pc d lo hi os a, L, r, x))
  | .lookupswitch d ps => p1i st fun a r => some (.inl (zmLs pc d ps a, L, r, x))
  | .getfield _ => p1r st fun a r => match i.2.2.1.1 with
    | 30 => match zmKd a x, i.2.2.1.2.1 with
      | 30, 0 => some (.inl (pc + i.2.1, L, .ref (a + 5) :: r, x))
      | 30, 1 => some (.inl (pc + i.2.1, L, .int 0 :: r, x))
      | _, _ => none
    | c => if zmKd a x = c then some (.inl (pc + i.2.1, L, zmRd i.2.2.1.2.2.1 a i.2.2.1.2.1 x :: r, x)) else none
  | .putfield _ => match i.2.2.1.2.2.1, st with
    | 0, .int v :: .ref a :: r => if zmKd a x = i.2.2.1.1 then some (.inl (pc + i.2.1, L, r, sI x a i.2.2.1.2.1 v)) else none
    | 1, .long v :: .ref a :: r => if zmKd a x = i.2.2.1.1 then some (.inl (pc + i.2.1, L, r, sL x a i.2.2.1.2.1 v)) else none
    | 2, .ref v :: .ref a :: r => if zmKd a x = i.2.2.1.1 then some (.inl (pc + i.2.1, L, r, sR x a i.2.2.1.2.1 (some v))) else none
    | 3, .int v :: .ref a :: r => if zmKd a x = i.2.2.1.1 ∧ (v = 0 ∨ v = 1) then some (.inl (pc + i.2.1, L, r, sI x a i.2.2.1.2.1 v)) else none
    | _, _ => none
  | .getstatic _ => match i.2.2.1.1 with
    | 0 => some (.inl (pc + i.2.1, L, .int 1 :: st, x))
    | k => some (.inl (pc + i.2.1, L, .ref k :: st, x))
  | .iaload => pix st fun j a r => if zmIn j (zmLen a x) = true then match zmKd a x with
    | 20 => some (.inl (pc + i.2.1, L, .int (gI x a j.toNatClampNeg) :: r, x))
    | 40 => some (.inl (pc + i.2.1, L, .int (gI x a j.toNatClampNeg) :: r, x))
    | _ => none else none
  | .baload => pix st fun j a r => if zmIn j (zmLen a x) = true then match zmKd a x with
    | 22 => some (.inl (pc + i.2.1, L, .int (gI x a j.toNatClampNeg) :: r, x))
    | 23 => some (.inl (pc + i.2.1, L, .int (gI x a j.toNatClampNeg) :: r, x))
    | 42 => some (.inl (pc + i.2.1, L, .int (gI x a j.toNatClampNeg) :: r, x))
    | _ => none else none
  | .laload => pix st fun j a r => if zmIn j (zmLen a x) = true then match zmKd a x with
    | 21 => some (.inl (pc + i.2.1, L, .long (gL x a j.toNatClampNeg) :: r, x))
    | 41 => some (.inl (pc + i.2.1, L, .long (gL x a j.toNatClampNeg) :: r, x))
    | _ => none else none
  | .aaload => pix st fun j a r => if zmIn j (zmLen a x) = true then match zmKd a x with
    | 24 => some (.inl (pc + i.2.1, L, zmRf (gR x a j.toNatClampNeg) :: r, x))
    | _ => none else none
  | .iastore => p1i st fun v st => pix st fun j a r => if zmIn j (zmLen a x) = true then match zmKd a x with
    | 20 => some (.inl (pc + i.2.1, L, r, sI x a j.toNatClampNeg v))
    | _ => none else none
  | .lastore => p1l st fun v st => pix st fun j a r => if zmIn j (zmLen a x) = true then match zmKd a x with
    | 21 => some (.inl (pc + i.2.1, L, r, sL x a j.toNatClampNeg v))
    | _ => none else none
  | .bastore => p1i st fun v st => pix st fun j a r => if zmIn j (zmLen a x) = true then match zmKd a x with
    | 22 => some (.inl (pc + i.2.1, L, r, sI x a j.toNatClampNeg v.toInt8.toInt32))
    | 23 => if v = 0 ∨ v = 1 then some (.inl (pc + i.2.1, L, r, sI x a j.toNatClampNeg v)) else none
    | _ => none else none
  | .aastore => p1r st fun v st => pix st fun j a r => if zmIn j (zmLen a x) = true then match zmKd a x, zmKd v x with
    | 24, 10 => some (.inl (pc + i.2.1, L, r, sR x a j.toNatClampNeg (some v)))
    | _, _ => none else none
  | .arraylength => p1r st fun a r => if 20 ≤ zmKd a x ∧ zmKd a x < 50 ∧ zmKd a x ≠ 30 then some (.inl (pc + i.2.1, L, .int (Int32.ofNat (zmLen a x)) :: r, x)) else none
  | .new _ => if (zmLay x.1.1).1 = i.2.2.1.1 then some (.inl (pc + i.2.1, L, .ref x.1.1 :: st, zmNew x)) else none
  | .newarray t => p1i st fun v r => if v = Int32.ofNat (zmLay x.1.1).2 then match t, (zmLay x.1.1).1 with
    | .int, 20 => some (.inl (pc + i.2.1, L, .ref x.1.1 :: r, zmNew x))
    | .long, 21 => some (.inl (pc + i.2.1, L, .ref x.1.1 :: r, zmNew x))
    | .byte, 22 => some (.inl (pc + i.2.1, L, .ref x.1.1 :: r, zmNew x))
    | .boolean, 23 => some (.inl (pc + i.2.1, L, .ref x.1.1 :: r, zmNew x))
    | _, _ => none else none
  | .anewarray _ => p1i st fun v r => if v = Int32.ofNat (zmLay x.1.1).2 ∧ (zmLay x.1.1).1 = 24 then some (.inl (pc + i.2.1, L, .ref x.1.1 :: r, zmNew x)) else none
  | .invokestatic _ => match i.2.2.1.1 with
    | 0 => if zmLow (st.drop i.2.2.1.2.2.1) = true ∧ i.2.2.1.2.2.1 ≤ st.length ∧ zmFit i.2.2.1.2.1 (st.take i.2.2.1.2.2.1).reverse = true then some (.inr (.inr (i.2.2.1.2.1, (st.take i.2.2.1.2.2.1).reverse, st.drop i.2.2.1.2.2.1))) else none
    | 4 => match st with
      | .int n :: .int tp :: .ref t :: .int sp :: .ref s :: r => if 14 ≤ s ∧ 14 ≤ t ∧ zmKd s x = 20 ∧ zmKd t x = 20 ∧ s ≠ t ∧ sp = 0 ∧ tp = 0 ∧ n = Int32.ofNat (zmLay s).2 ∧ (zmLay s).2 = (zmLay t).2 ∧ zmLow r = true then some (.inl (pc + 3, L, r, zmCpy x s 0 t 0 (zmLay s).2)) else none
      | _ => none
    | _ => none
  | .invokevirtual _ => match st.drop i.2.2.1.2.2.1 with
    | .ref b :: r => if zmRecv b i.2.2.1.2.1 x = true then (if zmLow r = true ∧ i.2.2.1.1 = 1 ∧ zmFit i.2.2.1.2.1 (.ref b :: (st.take i.2.2.1.2.2.1).reverse) = true then some (.inr (.inr (i.2.2.1.2.1, .ref b :: (st.take i.2.2.1.2.2.1).reverse, r))) else none) else none
    | _ => none
  | .invokespecial _ => match i.2.2.1.1 with
    | 2 => match st.drop i.2.2.1.2.2.1 with
      | .ref b :: r => if zmLow r = true ∧ zmRecv b i.2.2.1.2.1 x = true ∧ zmFit i.2.2.1.2.1 (.ref b :: (st.take i.2.2.1.2.2.1).reverse) = true then some (.inr (.inr (i.2.2.1.2.1, .ref b :: (st.take i.2.2.1.2.2.1).reverse, r))) else none
      | _ => none
    | 3 => p1r st fun _ r => if zmLow r = true then some (.inl (pc + 3, L, r, x)) else none
    | _ => none
  | .ireturn => match i.2.2.1.1, st with
    | 0, .int v :: [] => some (.inr (.inl (some (.int v))))
    | 1, .int v :: [] => if v = 0 ∨ v = 1 then some (.inr (.inl (some (.int v)))) else none
    | 2, .int v :: [] => if v = 0 ∨ v = 1 then some (.inr (.inl (some (.int v)))) else none
    | _, _ => none
  | .lreturn => match st with
    | .long v :: [] => some (.inr (.inl (some (.long v))))
    | _ => none
  | .areturn => match st with
    | .ref v :: [] => some (.inr (.inl (some (.ref v))))
    | .null :: [] => some (.inr (.inl (some .null)))
    | _ => none
  | .return_ => match st with
    | [] => some (.inr (.inl none))
    | _ => none
  | _ => none
