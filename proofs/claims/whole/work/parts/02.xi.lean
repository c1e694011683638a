/-! The little machine: cells, rows, steps. DRAFT until it has compiled once. Place 0 is the script (never written). -/
-- a cell: int[] | long[] | array of references (kind, places) | object (class number, fields)
abbrev xi_C : Type := List Int32 ⊕ (List Int64 ⊕ ((Nat × List (Option Nat)) ⊕ (Nat × List Value)))
abbrev xi_L : Type := List (Nat × Value)
abbrev xi_S : Type := Nat × xi_L × List Value × List xi_C
-- a row: the instruction, two resolved numbers, a resolved int
abbrev xi_R : Type := Instr × Nat × Nat × Int32
-- returned a value or nothing | threw an exception of a kind
abbrev xi_O : Type := Option Value ⊕ Nat
-- a class: its fields' types and start values
abbrev xi_K : Type := List (FieldType × Value)
def xi_len (i : Instr) : Nat := match i with
  | .bipush _ => 2
  | .iload _ => 2
  | .aload _ => 2
  | .istore _ => 2
  | .astore _ => 2
  | .ldc _ => 2
  | .newarray _ => 2
  | .sipush _ => 3
  | .ldc_w _ => 3
  | .iinc _ _ => 3
  | .ifCond _ _ => 3
  | .if_icmp _ _ => 3
  | .goto _ => 3
  | .getfield _ => 3
  | .putfield _ => 3
  | .invokevirtual _ => 3
  | .invokespecial _ => 3
  | .invokestatic _ => 3
  | .new _ => 3
  | .anewarray _ => 3
  | .multianewarray _ _ => 4
  | _ => 1
def xi_look : xi_L → Nat → Option Value
  | [], _ => none
  | q :: l, i => bif q.1 == i then some q.2 else xi_look l i
def xi_keep (i : Nat) (q : Nat × Value) : Bool := !(q.1 == i) && !(q.1 + 1 == i && q.2.category == 2)
def xi_sto (ls : xi_L) (i : Nat) (v : Value) : xi_L := (i, v) :: ls.filter (xi_keep i)
def xi_cmp (c : ClassFile.Cond) (x y : Int32) : Bool := match c with
  | .eq => decide (x = y)
  | .ne => !decide (x = y)
  | .lt => decide (x < y)
  | .ge => decide (y ≤ x)
  | .gt => decide (y < x)
  | .le => decide (x ≤ y)
def xi_in (i : Int32) (n : Nat) : Bool := !decide (i < 0) && decide (i.toNatClampNeg < n)
def xi_fit (ty : FieldType) (v : Value) : Bool := match ty, v with
  | .int, .int _ => true
  | .boolean, .int x => decide (x = 0) || decide (x = 1)
  | .object _, .ref _ => true
  | .array _, .ref _ => true
  | _, _ => false
-- does every reference lie below n
def xi_wfv (n : Nat) (v : Value) : Bool := match v with
  | .ref i => decide (i < n)
  | _ => true
def xi_wfc (n : Nat) (c : xi_C) : Bool := match c with
  | .inl _ => true
  | .inr (.inl _) => true
  | .inr (.inr (.inl (_, l))) => l.all (fun q => match q with
    | some i => decide (i < n)
    | none => true)
  | .inr (.inr (.inr (_, fs))) => fs.all (xi_wfv n)
def xi_wf (ls : xi_L) (st : List Value) (h : List xi_C) : Bool := ls.all (fun q => xi_wfv h.length q.2) && st.all (xi_wfv h.length) && h.all (xi_wfc h.length)
-- loads
def xi_lod (i : Instr) (ls : xi_L) (v : Int32) : Option Value := match i with
  | .iload_n k => match xi_look ls k.val with
    | some (.int x) => some (.int x)
    | _ => none
  | .iload k => match xi_look ls k with
    | some (.int x) => some (.int x)
    | _ => none
  | .aload_n k => match xi_look ls k.val with
    | some (.ref x) => some (.ref x)
    | _ => none
  | .aload k => match xi_look ls k with
    | some (.ref x) => some (.ref x)
    | _ => none
  | .iconst z => some (.int (Int32.ofInt z))
  | .bipush z => some (.int (Int8.ofInt z).toInt32)
  | .sipush z => some (.int (Int16.ofInt z).toInt32)
  | .ldc _ => some (.int v)
  | .ldc_w _ => some (.int v)
  | _ => none
-- stores (and iinc): new locals, what is left of the stack
def xi_str (i : Instr) (ls : xi_L) (st : List Value) : Option (xi_L × List Value) := match i with
  | .istore_n k => match st with
    | .int x :: st => some (xi_sto ls k.val (.int x), st)
    | _ => none
  | .istore k => match st with
    | .int x :: st => some (xi_sto ls k (.int x), st)
    | _ => none
  | .astore_n k => match st with
    | .ref x :: st => some (xi_sto ls k.val (.ref x), st)
    | _ => none
  | .astore k => match st with
    | .ref x :: st => some (xi_sto ls k (.ref x), st)
    | _ => none
  | .iinc k d => match xi_look ls k with
    | some (.int x) => some (xi_sto ls k (.int (x + Int32.ofInt d)), st)
    | _ => none
  | _ => none
-- two ints to one
def xi_bin (i : Instr) (x y : Int32) : Option Int32 := match i with
  | .iadd => some (x + y)
  | .isub => some (x - y)
  | .imul => some (x * y)
  | .iand => some (x &&& y)
  | .ior => some (x ||| y)
  | .ixor => some (x ^^^ y)
  | .ishl => some (x <<< (y &&& 31))
  | .ishr => some (x >>> (y &&& 31))
  | .iushr => some (x.toUInt32 >>> (y.toUInt32 &&& Int32.toUInt32 31)).toInt32
  | .idiv => bif decide (y = 0) then none else some (x / y)
  | .irem => bif decide (y = 0) then none else some (x - x / y * y)
  | _ => none
-- the stack alone
def xi_stk (i : Instr) (st : List Value) : Option (List Value) := match i with
  | .dup => match st with
    | .int x :: st => some (.int x :: .int x :: st)
    | .ref x :: st => some (.ref x :: .ref x :: st)
    | _ => none
  | .dup2 => match st with
    | .int x :: .ref y :: st => some (.int x :: .ref y :: .int x :: .ref y :: st)
    | _ => none
  | .i2l => match st with
    | .int x :: st => some (.long x.toInt64 :: st)
    | _ => none
  | .lcmp => match st with
    | .long y :: .long x :: st => some (.int (lg_cmp x y) :: st)
    | _ => none
  | _ => match st with
    | .int y :: .int x :: st => (xi_bin i x y).map (fun z => .int z :: st)
    | _ => none
-- branches: the target is the row's first number; next pc, what is left of the stack
def xi_brn (i : Instr) (a pc : Nat) (st : List Value) : Option (Nat × List Value) := match i with
  | .goto _ => some (a, st)
  | .ifCond c _ => match st with
    | .int x :: st => some (bif xi_cmp c x 0 then a else pc + 3, st)
    | _ => none
  | .if_icmp c _ => match st with
    | .int y :: .int x :: st => some (bif xi_cmp c x y then a else pc + 3, st)
    | _ => none
  | .tableswitch _ lo hi offs => match st with
    | .int x :: st => bif decide (x.toInt < lo) || decide (hi < x.toInt) then none else (match offs[(x.toInt - lo).toNat]? with
      | some o => bif decide (0 ≤ (pc : Int) + o) then some (((pc : Int) + o).toNat, st) else none
      | none => none)
    | _ => none
  | _ => none
-- reads of the heap
def xi_rd (i : Instr) (a b : Nat) (st : List Value) (h : List xi_C) : Option (List Value) := match i with
  | .iaload => match st with
    | .int j :: .ref q :: st => match h[q]? with
      | some (.inl l) => bif xi_in j l.length then some (.int (l.getD j.toNatClampNeg 0) :: st) else none
      | _ => none
    | _ => none
  | .laload => match st with
    | .int j :: .ref (q + 1) :: st => match h[q + 1]? with
      | some (.inr (.inl l)) => bif xi_in j l.length then some (.long (l.getD j.toNatClampNeg 0) :: st) else none
      | _ => none
    | _ => none
  | .aaload => match st with
    | .int j :: .ref (q + 1) :: st => match h[q + 1]? with
      | some (.inr (.inr (.inl (k, l)))) => bif decide (k < 2) && xi_in j l.length then (match l.getD j.toNatClampNeg none with
        | some y => some (.ref y :: st)
        | none => none) else none
      | _ => none
    | _ => none
  | .arraylength => match st with
    | .ref q :: st => match h[q]? with
      | some (.inl l) => some (.int (Int32.ofNat l.length) :: st)
      | _ => none
    | _ => none
  | .getfield _ => match st with
    | .ref (q + 1) :: st => match h[q + 1]? with
      | some (.inr (.inr (.inr (ci, fs)))) => bif ci == a then (match fs[b]? with
        | some v => some (v :: st)
        | none => none) else none
      | _ => none
    | _ => none
  | _ => none
def xi_cpy (l g : List Int32) (sp dp n : Nat) : List Int32 := (List.range g.length).map (fun j => bif decide (dp ≤ j) && decide (j < dp + n) then l.getD (sp + (j - dp)) 0 else g.getD j 0)
-- which classes an array of references of a kind takes
def xi_asg (k ci : Nat) : Bool := k == 0 && (ci == 4 || ci == 5 || ci == 6)
-- writes to the heap: what is left of the stack, the heap
def xi_wr (ks : List xi_K) (i : Instr) (a b : Nat) (st : List Value) (h : List xi_C) : Option (List Value × List xi_C) := match i with
  | .iastore => match st with
    | .int x :: .int j :: .ref (q + 1) :: st => match h[q + 1]? with
      | some (.inl l) => bif xi_in j l.length then some (st, h.set (q + 1) (.inl (l.set j.toNatClampNeg x))) else none
      | _ => none
    | _ => none
  | .lastore => match st with
    | .long x :: .int j :: .ref (q + 1) :: st => match h[q + 1]? with
      | some (.inr (.inl l)) => bif xi_in j l.length then some (st, h.set (q + 1) (.inr (.inl (l.set j.toNatClampNeg x)))) else none
      | _ => none
    | _ => none
  | .aastore => match st with
    | .ref (v + 1) :: .int j :: .ref (q + 1) :: st => match h[q + 1]?, h[v + 1]? with
      | some (.inr (.inr (.inl (k, l)))), some (.inr (.inr (.inr (ci, _)))) => bif xi_in j l.length && xi_asg k ci then some (st, h.set (q + 1) (.inr (.inr (.inl (k, l.set j.toNatClampNeg (some (v + 1))))))) else none
      | _, _ => none
    | _ => none
  | .putfield _ => match st with
    | v :: .ref (q + 1) :: st => match h[q + 1]?, (ks.getD a [])[b]? with
      | some (.inr (.inr (.inr (ci, fs)))), some (ty, _) => bif ci == a && decide (b < fs.length) && xi_fit ty v then some (st, h.set (q + 1) (.inr (.inr (.inr (ci, fs.set b v))))) else none
      | _, _ => none
    | _ => none
  | .invokespecial _ => bif a == 1000 then (match st with
    | .ref _ :: st => bif decide ((st.map fun v => v.category).sum ≤ 8) then some (st, h) else none
    | _ => none) else none
  | .invokestatic _ => bif a == 1001 then (match st with
    | .int n :: .int dp :: .ref (q + 1) :: .int sp :: .ref (o + 1) :: st => match h[o + 1]?, h[q + 1]? with
      | some (.inl l), some (.inl g) => bif !decide (n < 0) && !decide (dp < 0) && !decide (sp < 0) && decide (sp.toNatClampNeg + n.toNatClampNeg ≤ l.length) && decide (dp.toNatClampNeg + n.toNatClampNeg ≤ g.length) && decide ((st.map fun v => v.category).sum ≤ 8)
          then some (st, h.set (q + 1) (.inl (xi_cpy l g sp.toNatClampNeg dp.toNatClampNeg n.toNatClampNeg))) else none
      | _, _ => none
    | _ => none) else none
  | _ => none
-- what makes cells: the stack, the heap, cells, slots
def xi_new (ks : List xi_K) (i : Instr) (a b : Nat) (st : List Value) (h : List xi_C) : Option (List Value × List xi_C × Nat × Nat) := match i with
  | .new _ => bif b == 0 then (match ks[a]? with
    | some k => some (.ref h.length :: st, h ++ [.inr (.inr (.inr (a, k.map (fun q => q.2))))], 1, k.length)
    | none => none) else none
  | .newarray .int => match st with
    | .int z :: st => bif !decide (z < 0) && decide (z.toNatClampNeg ≤ 1000) then some (.ref h.length :: st, h ++ [.inl (List.replicate z.toNatClampNeg 0)], 1, z.toNatClampNeg) else none
    | _ => none
  | .newarray .long => match st with
    | .int z :: st => bif !decide (z < 0) && decide (z.toNatClampNeg ≤ 1000) then some (.ref h.length :: st, h ++ [.inr (.inl (List.replicate z.toNatClampNeg 0))], 1, z.toNatClampNeg) else none
    | _ => none
  | .anewarray _ => match st with
    | .int z :: st => bif !decide (z < 0) && decide (z.toNatClampNeg ≤ 1000) then some (.ref h.length :: st, h ++ [.inr (.inr (.inl (a, List.replicate z.toNatClampNeg none)))], 1, z.toNatClampNeg) else none
    | _ => none
  -- new int[4][4]: the outer array first, then its rows
  | .multianewarray _ _ => match st with
    | .int 4 :: .int 4 :: st => some (.ref h.length :: st, h ++ [.inr (.inr (.inl (1, [some (h.length + 1), some (h.length + 2), some (h.length + 3), some (h.length + 4)]))), .inl [0, 0, 0, 0], .inl [0, 0, 0, 0], .inl [0, 0, 0, 0], .inl [0, 0, 0, 0]], 5, 20)
    | _ => none
  | _ => none
-- one step that ends in one next state; cells and slots made
def xi_pure (ks : List xi_K) (r : xi_R) (s : xi_S) : Option (xi_S × Nat × Nat) := match xi_lod r.1 s.2.1 r.2.2.2 with
  | some v => some ((s.1 + xi_len r.1, s.2.1, v :: s.2.2.1, s.2.2.2), 0, 0)
  | none => match xi_brn r.1 r.2.1 s.1 s.2.2.1 with
    | some q => some ((q.1, s.2.1, q.2, s.2.2.2), 0, 0)
    | none => match xi_rd r.1 r.2.1 r.2.2.1 s.2.2.1 s.2.2.2 with
      | some st => some ((s.1 + xi_len r.1, s.2.1, st, s.2.2.2), 0, 0)
      | none => match xi_str r.1 s.2.1 s.2.2.1 with
        | some q => some ((s.1 + xi_len r.1, q.1, q.2, s.2.2.2), 0, 0)
        | none => match xi_wr ks r.1 r.2.1 r.2.2.1 s.2.2.1 s.2.2.2 with
          | some q => some ((s.1 + xi_len r.1, s.2.1, q.1, q.2), 0, 0)
          | none => match xi_stk r.1 s.2.2.1 with
            | some st => some ((s.1 + xi_len r.1, s.2.1, st, s.2.2.2), 0, 0)
            | none => bif xi_wf s.2.1 s.2.2.1 s.2.2.2 then (match xi_new ks r.1 r.2.1 r.2.2.1 s.2.2.1 s.2.2.2 with
              | some q => some ((s.1 + xi_len r.1, s.2.1, q.1, q.2.1), q.2.2)
              | none => none) else none
def xi_ret (i : Instr) (st : List Value) : Option (Option Value) := match i with
  | .return_ => match st with
    | [] => some none
    | _ => none
  | .ireturn => match st with
    | [.int x] => some (some (.int x))
    | _ => none
  | _ => none
-- a call: callee (by the receiver's class), arguments, what is left of the stack
def xi_inv (vt : Nat → Nat → Option Nat) (r : xi_R) (st : List Value) (h : List xi_C) : Option (Nat × List Value × List Value) := match r.1 with
  | .invokestatic _ => bif decide (r.2.1 < 900) && decide (r.2.2.1 ≤ st.length) then some (r.2.1, (st.take r.2.2.1).reverse, st.drop r.2.2.1) else none
  -- the receiver apart: the row's second number counts it
  | .invokespecial _ => match st.drop (r.2.2.1 - 1) with
    | .ref (q + 1) :: rest => bif decide (r.2.1 < 900) then some (r.2.1, .ref (q + 1) :: (st.take (r.2.2.1 - 1)).reverse, rest) else none
    | _ => none
  | .invokevirtual _ => match st.drop (r.2.2.1 - 1) with
    | .ref (q + 1) :: rest => match h[q + 1]? with
      | some (.inr (.inr (.inr (ci, _)))) => match vt r.2.1 ci with
        | some y => some (y, .ref (q + 1) :: (st.take (r.2.2.1 - 1)).reverse, rest)
        | none => none
      | _ => none
    | _ => none
  | _ => none
-- throw new X(), at its 'new': the row's first number is the kind, its second is 1
def xi_thr (rows : List (Option xi_R)) (pc : Nat) (r : xi_R) : Option Nat := match r with
  | (.new _, a, 1, _) => match rows[pc + 3]?, rows[pc + 4]?, rows[pc + 7]? with
    | some (some (.dup, _)), some (some (.invokespecial _, 1002, _)), some (some (.athrow, _)) => some a
    | _, _, _ => none
  | _ => none
-- the handler that takes kind x at pc: handlers are (from, to, where, the kinds)
def xi_hdl : List (Nat × Nat × Nat × List Nat) → Nat → Nat → Option Nat
  | [], _, _ => none
  | q :: l, pc, x => bif decide (q.1 ≤ pc) && decide (pc < q.2.1) && q.2.2.2.contains x then some q.2.2.1 else xi_hdl l pc x
-- behind the handler's astore: that local is not known
def xi_cat (rows : List (Option xi_R)) (w : Nat) (ls : xi_L) : Option (Nat × xi_L) := match rows[w]? with
  | some (some (.astore_n k, _)) => some (w + 1, ls.filter (xi_keep k.val))
  | some (some (.astore k, _)) => some (w + 2, ls.filter (xi_keep k))
  | _ => none
-- a method: rows by pc, handlers, what it answers (0 nothing, 1 an int, 2 a boolean)
abbrev xi_M : Type := List (Option xi_R) × List (Nat × Nat × Nat × List Nat) × Nat
