/-! THE SMALL MACHINE: values, heap (ints and references by cell and place, shapes), one straight instruction, a block, a frame, calls by depth -/
abbrev MV : Type := Int32 ⊕ (Int64 ⊕ (Option Nat ⊕ Nat))
abbrev MH : Type := (Nat → Nat → Int32) × ((Nat → Nat → Option Nat) × List (Nat × Nat))
abbrev ML : Type := List (Option MV)
abbrev MF : Type := Nat × (ML × (List MV × MH))
abbrev MO : Type := MF ⊕ ((Bool × (MF × MF)) ⊕ ((Option MV × MH) ⊕ (Nat × (List MV × MF))))
abbrev MI : Type := ClassFile.Instr × (Nat × (Nat × (Nat × (Nat × Nat))))
abbrev MR : Type := Bool × (ML × (List MV × MH))
abbrev mI (x : Int32) : MV := .inl x
abbrev mJ (x : Int64) : MV := .inr (.inl x)
abbrev mR (o : Option Nat) : MV := .inr (.inr (.inl o))
abbrev mO (j : Nat) : MV := .inr (.inr (.inr j))
def sI (h : MH) (a i : Nat) (x : Int32) : MH := (fun b j => if b = a ∧ j = i then x else h.1 b j, h.2)
def sR (h : MH) (a i : Nat) (x : Option Nat) : MH := (h.1, (fun b j => if b = a ∧ j = i then x else h.2.1 b j, h.2.2))
def sN (h : MH) (sh : Nat × Nat) : MH := (fun b j => if b = h.2.2.length then 0 else h.1 b j, (fun b j => if b = h.2.2.length then none else h.2.1 b j, h.2.2 ++ [sh]))
def sC (h : MH) (a b sp dp n : Nat) : MH := (fun c j => if c = b then va_cpy (h.1 a) (h.1 b) sp dp n j else h.1 c j, h.2)
def gO (h : MH) (o : Option Nat) (k : Nat) : Bool := match o with
  | none => false
  | some a => match h.2.2[a]? with
    | some q => q.1 == k
    | none => false
def inB (i : Int32) (n : Nat) : Bool := decide (0 ≤ i) && decide (i.toNatClampNeg < n)
def gA (h : MH) (o : Option Nat) (k : Nat) (i : Int32) : Bool := match o with
  | none => false
  | some a => match h.2.2[a]? with
    | some q => q.1 == k && inB i q.2
    | none => false
def shN (h : MH) (o : Option Nat) : Nat := ((h.2.2[o.getD 0]?).getD (0, 0)).2
def cat1 (v : MV) : Bool := match v with
  | .inr (.inl _) => false
  | _ => true
def catS : List MV → Nat
  | [] => 0
  | v :: r => (if cat1 v = true then 1 else 2) + catS r
def okl (L : ML) (k : Nat) : Bool := decide (k < L.length) && (match k with
  | 0 => true
  | j + 1 => match L[j]? with
    | some (some (.inr (.inl _))) => false
    | _ => true)
def mdef (x : Int32) (ty : Nat) : Int32 := if ty = 1 then vp_nar .byte x else if ty = 2 then vp_nar .boolean x else x
/-- the formatter that nobody asks: null, or a cell -/
def sio (rod : Nat → Nat × (Nat → Int32)) : MV := if (rod 6).1 = 0 then .inr (.inr (.inl none)) else .inr (.inr (.inr 6))
def isSt (j : Nat) : Bool := decide (10 ≤ j) && decide (j < 32)
def isBy (j : Nat) : Bool := decide (110 ≤ j) && decide (j < 132)
/-- constants -/
def stC (rod : Nat → Nat × (Nat → Int32)) (m : MI) (L : ML) (st : List MV) (h : MH) : Option MR := match m.1 with
  | .iconst n => some (true, L, mI (Int32.ofInt n) :: st, h)
  | .bipush n => some (true, L, mI (Int8.ofInt n).toInt32 :: st, h)
  | .sipush n => some (true, L, mI (Int16.ofInt n).toInt32 :: st, h)
  | .lconst n => some (true, L, mJ (Int64.ofNat (n : Nat)) :: st, h)
  | .ldc _ => some (true, L, (if m.2.2.2.1 = 1 then mO m.2.2.1 else mI (Int32.ofNat m.2.2.1)) :: st, h)
  | .ldc_w _ => some (true, L, (if m.2.2.2.1 = 1 then mO m.2.2.1 else mI (Int32.ofNat m.2.2.1)) :: st, h)
  | .ldc2_w _ => some (true, L, mJ (Int64.ofNat m.2.2.1) :: st, h)
  | .aconst_null => some (true, L, mR none :: st, h)
  | .getstatic _ => some (true, L, (if m.2.2.2.1 = 1 then mI (Int32.ofNat m.2.2.1) else if m.2.2.2.1 = 2 then sio rod else mO m.2.2.1) :: st, h)
  | _ => none
def ldI (L : ML) (k : Nat) (st : List MV) (h : MH) : Option MR := match L[k]? with
  | some (some (.inl v)) => some (true, L, .inl v :: st, h)
  | _ => none
def ldJ (L : ML) (k : Nat) (st : List MV) (h : MH) : Option MR := match L[k]? with
  | some (some (.inr (.inl v))) => some (true, L, .inr (.inl v) :: st, h)
  | _ => none
def ldA (L : ML) (k : Nat) (st : List MV) (h : MH) : Option MR := match L[k]? with
  | some (some (.inr (.inr v))) => some (true, L, .inr (.inr v) :: st, h)
  | _ => none
def seI (L : ML) (k : Nat) (st : List MV) (h : MH) : Option MR := match st with
  | .inl v :: st => some (okl L k, L.set k (some (.inl v)), st, h)
  | _ => none
def seJ (L : ML) (k : Nat) (st : List MV) (h : MH) : Option MR := match st with
  | .inr (.inl v) :: st => some (okl L k && decide (k + 1 < L.length), (L.set k (some (.inr (.inl v)))).set (k + 1) none, st, h)
  | _ => none
def seA (L : ML) (k : Nat) (st : List MV) (h : MH) : Option MR := match st with
  | .inr (.inr v) :: st => some (okl L k, L.set k (some (.inr (.inr v))), st, h)
  | _ => none
def icI (L : ML) (k : Nat) (n : Int) (st : List MV) (h : MH) : Option MR := match L[k]? with
  | some (some (.inl v)) => some (okl L k, L.set k (some (.inl (v + Int32.ofInt n))), st, h)
  | _ => none
/-- locals -/
def stL (m : MI) (L : ML) (st : List MV) (h : MH) : Option MR := match m.1 with
  | .iload k => ldI L k st h
  | .iload_n k => ldI L k st h
  | .lload k => ldJ L k st h
  | .lload_n k => ldJ L k st h
  | .aload k => ldA L k st h
  | .aload_n k => ldA L k st h
  | .istore k => seI L k st h
  | .istore_n k => seI L k st h
  | .lstore k => seJ L k st h
  | .lstore_n k => seJ L k st h
  | .astore k => seA L k st h
  | .astore_n k => seA L k st h
  | .iinc k n => icI L k n st h
  | _ => none
def opI (f : Int32 → Int32 → Int32) (L : ML) (st : List MV) (h : MH) : Option MR := match st with
  | .inl y :: .inl x :: st => some (true, L, .inl (f x y) :: st, h)
  | _ => none
def opJ (f : Int64 → Int64 → Int64) (L : ML) (st : List MV) (h : MH) : Option MR := match st with
  | .inr (.inl y) :: .inr (.inl x) :: st => some (true, L, .inr (.inl (f x y)) :: st, h)
  | _ => none
def dvI (f : Int32 → Int32 → Int32) (L : ML) (st : List MV) (h : MH) : Option MR := match st with
  | .inl y :: .inl x :: st => some (!(decide (y = 0)), L, .inl (f x y) :: st, h)
  | _ => none
def dvJ (f : Int64 → Int64 → Int64) (L : ML) (st : List MV) (h : MH) : Option MR := match st with
  | .inr (.inl y) :: .inr (.inl x) :: st => some (!(decide (y = 0)), L, .inr (.inl (f x y)) :: st, h)
  | _ => none
def unI (f : Int32 → Int32) (L : ML) (st : List MV) (h : MH) : Option MR := match st with
  | .inl x :: st => some (true, L, .inl (f x) :: st, h)
  | _ => none
/-- arithmetic -/
def stA (m : MI) (L : ML) (st : List MV) (h : MH) : Option MR := match m.1 with
  | .iadd => opI (fun x y => x + y) L st h
  | .isub => opI (fun x y => x - y) L st h
  | .imul => opI (fun x y => x * y) L st h
  | .iand => opI (fun x y => x &&& y) L st h
  | .ior => opI (fun x y => x ||| y) L st h
  | .ixor => opI (fun x y => x ^^^ y) L st h
  | .ishl => opI (fun x y => x <<< (y &&& 31)) L st h
  | .ishr => opI (fun x y => x >>> (y &&& 31)) L st h
  | .iushr => opI (fun x y => (x.toUInt32 >>> (y.toUInt32 &&& Int32.toUInt32 31)).toInt32) L st h
  | .idiv => dvI (fun x y => x / y) L st h
  | .irem => dvI (fun x y => x - x / y * y) L st h
  | .ineg => unI (fun x => -x) L st h
  | .i2b => unI (fun x => x.toInt8.toInt32) L st h
  | .i2c => unI (fun x => (x.toUInt32 % 65536).toInt32) L st h
  | _ => none
/-- longs, and the stack's own -/
def stB (m : MI) (L : ML) (st : List MV) (h : MH) : Option MR := match m.1 with
  | .ladd => opJ (fun x y => x + y) L st h
  | .lsub => opJ (fun x y => x - y) L st h
  | .lmul => opJ (fun x y => x * y) L st h
  | .ldiv => dvJ (fun x y => x / y) L st h
  | .lrem => dvJ (fun x y => x - x / y * y) L st h
  | .lneg => match st with
    | .inr (.inl x) :: st => some (true, L, .inr (.inl (-x)) :: st, h)
    | _ => none
  | .lcmp => match st with
    | .inr (.inl y) :: .inr (.inl x) :: st => some (true, L, .inl (lg_cmp x y) :: st, h)
    | _ => none
  | .i2l => match st with
    | .inl x :: st => some (true, L, .inr (.inl x.toInt64) :: st, h)
    | _ => none
  | .dup => match st with
    | v :: st => some (cat1 v, L, v :: v :: st, h)
    | _ => none
  | .dup2 => match st with
    | v :: w :: st => some (cat1 v && cat1 w, L, v :: w :: v :: w :: st, h)
    | _ => none
  | .pop => match st with
    | v :: st => some (cat1 v, L, st, h)
    | _ => none
  | _ => none
/-- fields: place x, type y (0 int, 1 reference, 2 boolean), class z -/
def stF (m : MI) (L : ML) (st : List MV) (h : MH) : Option MR := match m.1 with
  | .getfield _ => match st with
    | .inr (.inr (.inl o)) :: st => some (gO h o (10 + m.2.2.2.2.1) && decide (m.2.2.2.1 < 3), L, (if m.2.2.2.1 = 1 then mR (h.2.1 (o.getD 0) m.2.2.1) else mI (h.1 (o.getD 0) m.2.2.1)) :: st, h)
    | .inr (.inr (.inr j)) :: st => some (isSt j && (m.2.2.2.1 == 3 || m.2.2.2.1 == 4), L, (if m.2.2.2.1 = 3 then mI 0 else mO (j + 100)) :: st, h)
    | _ => none
  | .putfield _ => match st with
    | .inl v :: .inr (.inr (.inl o)) :: st => some (gO h o (10 + m.2.2.2.2.1) && (m.2.2.2.1 == 0 || (m.2.2.2.1 == 2 && (decide (v = 0) || decide (v = 1)))), L, st, sI h (o.getD 0) m.2.2.1 v)
    | .inr (.inr (.inl q)) :: .inr (.inr (.inl o)) :: st => some (gO h o (10 + m.2.2.2.2.1) && m.2.2.2.1 == 1, L, st, sR h (o.getD 0) m.2.2.1 q)
    | _ => none
  | _ => none
/-- arrays: kind y -/
def stR (rod : Nat → Nat × (Nat → Int32)) (m : MI) (L : ML) (st : List MV) (h : MH) : Option MR := match m.1 with
  | .iaload => match st with
    | .inl i :: .inr (.inr (.inl o)) :: st => some (gA h o 0 i, L, mI (h.1 (o.getD 0) i.toNatClampNeg) :: st, h)
    | .inl i :: .inr (.inr (.inr j)) :: st => some (decide (j < 6) && inB i (rod j).1, L, mI ((rod j).2 i.toNatClampNeg) :: st, h)
    | _ => none
  | .baload => match st with
    | .inl i :: .inr (.inr (.inl o)) :: st => some (gA h o m.2.2.2.1 i, L, mI (mdef (h.1 (o.getD 0) i.toNatClampNeg) m.2.2.2.1) :: st, h)
    | .inl i :: .inr (.inr (.inr j)) :: st => some (isBy j && (inB i (rod j).1 && m.2.2.2.1 == 1), L, mI ((rod j).2 i.toNatClampNeg) :: st, h)
    | _ => none
  | .aaload => match st with
    | .inl i :: .inr (.inr (.inl o)) :: st => some (gA h o m.2.2.2.1 i, L, mR (h.2.1 (o.getD 0) i.toNatClampNeg) :: st, h)
    | _ => none
  | .iastore => match st with
    | .inl x :: .inl i :: .inr (.inr (.inl o)) :: st => some (gA h o 0 i, L, st, sI h (o.getD 0) i.toNatClampNeg x)
    | _ => none
  | .bastore => match st with
    | .inl x :: .inl i :: .inr (.inr (.inl o)) :: st => some (gA h o m.2.2.2.1 i, L, st, sI h (o.getD 0) i.toNatClampNeg x)
    | _ => none
  | .aastore => match st with
    | .inr (.inr (.inl q)) :: .inl i :: .inr (.inr (.inl o)) :: st => some (gA h o m.2.2.2.1 i && gO h q (10 + m.2.2.2.2.1), L, st, sR h (o.getD 0) i.toNatClampNeg q)
    | _ => none
  | .arraylength => match st with
    | .inr (.inr (.inl o)) :: st => some (gO h o 0, L, mI (Int32.ofNat (shN h o)) :: st, h)
    | .inr (.inr (.inr j)) :: st => some (decide (j < 6) || isBy j, L, mI (Int32.ofNat (rod j).1) :: st, h)
    | _ => none
  | _ => none
def gN (h : MH) (n : Int32) : Bool := decide (0 ≤ n) && (decide (n.toNatClampNeg ≤ 7000) && decide (h.2.2.length < 1000))
/-- new cells: kind y, places x -/
def stN (m : MI) (L : ML) (st : List MV) (h : MH) : Option MR := match m.1 with
  | .new _ => some (decide (h.2.2.length < 1000), L, mR (some h.2.2.length) :: st, sN h (10 + m.2.2.2.2.1, m.2.2.1))
  | .newarray _ => match st with
    | .inl n :: st => some (gN h n, L, mR (some h.2.2.length) :: st, sN h (m.2.2.2.1, n.toNatClampNeg))
    | _ => none
  | .anewarray _ => match st with
    | .inl n :: st => some (gN h n, L, mR (some h.2.2.length) :: st, sN h (m.2.2.2.1, n.toNatClampNeg))
    | _ => none
  | _ => none
def shK (h : MH) (o : Option Nat) : Nat := ((h.2.2[o.getD 0]?).getD (99, 0)).1
/-- the JDK's own that are one step here: y = 1 max, 2 min, 3 abs, 4 arraycopy; Object's constructor y = 5 -/
def stX (m : MI) (L : ML) (st : List MV) (h : MH) : Option MR := match m.1 with
  | .invokestatic _ => match m.2.2.2.1, st with
    | 1, .inl y :: .inl x :: st => some (decide (catS st ≤ 8), L, mI (if x < y then y else x) :: st, h)
    | 2, .inl y :: .inl x :: st => some (decide (catS st ≤ 8), L, mI (if y < x then y else x) :: st, h)
    | 3, .inl x :: st => some (decide (catS st ≤ 8), L, mI (if 0 ≤ x then x else 0 - x) :: st, h)
    | 4, .inl n :: .inl dp :: .inr (.inr (.inl d)) :: .inl sp :: .inr (.inr (.inl o)) :: st => some (decide (catS st ≤ 8) && (gO h o m.2.2.1 && (gO h d m.2.2.1 && (decide (m.2.2.1 < 2) && (decide (0 ≤ sp) && (decide (0 ≤ dp) && (decide (0 ≤ n) && (decide (sp.toNatClampNeg + n.toNatClampNeg ≤ shN h o) && decide (dp.toNatClampNeg + n.toNatClampNeg ≤ shN h d)))))))), L, st, sC h (o.getD 0) (d.getD 0) sp.toNatClampNeg dp.toNatClampNeg n.toNatClampNeg)
    | _, _ => none
  | .invokespecial _ => match m.2.2.2.1, st with
    | 5, .inr (.inr (.inl o)) :: st => some (o.isSome && decide (catS st ≤ 8), L, st, h)
    | _, _ => none
  | _ => none
def orE (a b : Option MR) : Option MR := match a with
  | some r => some r
  | none => b
def st1 (rod : Nat → Nat × (Nat → Int32)) (m : MI) (L : ML) (st : List MV) (h : MH) : Option MR :=
  orE (stL m L st h) (orE (stC rod m L st h) (orE (stF m L st h) (orE (stA m L st h) (orE (stR rod m L st h) (orE (stB m L st h) (orE (stN m L st h) (stX m L st h)))))))
def lookT : List (Int × Int) → Int32 → Nat → Nat → Nat
  | [], _, _, d => d
  | q :: r, x, pc, d => if x = Int32.ofInt q.1 then ((pc : Int) + q.2).toNat else lookT r x pc d
def tabT : List Int → Int → Int32 → Nat → Nat → Nat
  | [], _, _, _, d => d
  | q :: r, lo, x, pc, d => if x = Int32.ofInt lo then ((pc : Int) + q).toNat else tabT r (lo + 1) x pc d
def cmpI (c : ClassFile.Cond) (x y : Int32) : Bool := match c with
  | .eq => decide (x = y)
  | .ne => !(decide (x = y))
  | .lt => decide (x < y)
  | .ge => decide (y ≤ x)
  | .gt => decide (y < x)
  | .le => decide (x ≤ y)
def popN : Nat → List MV → List MV → Option (List MV × List MV)
  | 0, acc, st => some (acc, st)
  | _ + 1, _, [] => none
  | n + 1, acc, v :: st => popN n (v :: acc) st
/-- the ends of a block: targets x; calls: method x, arguments y (the receiver not counted), receiver's class z -/
def trm (m : MI) (pc : Nat) (L : ML) (st : List MV) (h : MH) (g : Bool) : Option (Bool × MO) := match m.1 with
  | .goto _ => some (g, .inl (m.2.2.1, L, st, h))
  | .ifCond c _ => match st with
    | .inl x :: st => some (g, .inr (.inl (cmpI c x 0, (m.2.2.1, L, st, h), (pc + 3, L, st, h))))
    | _ => none
  | .if_icmp c _ => match st with
    | .inl y :: .inl x :: st => some (g, .inr (.inl (cmpI c x y, (m.2.2.1, L, st, h), (pc + 3, L, st, h))))
    | _ => none
  | .ifnull _ => match st with
    | .inr (.inr (.inl o)) :: st => some (g, .inr (.inl (o.isNone, (m.2.2.1, L, st, h), (pc + 3, L, st, h))))
    | _ => none
  | .ifnonnull _ => match st with
    | .inr (.inr (.inl o)) :: st => some (g, .inr (.inl (o.isSome, (m.2.2.1, L, st, h), (pc + 3, L, st, h))))
    | _ => none
  | .tableswitch d lo _ offs => match st with
    | .inl x :: st => some (g, .inl (tabT offs.toList lo x pc ((pc : Int) + d).toNat, L, st, h))
    | _ => none
  | .lookupswitch d ps => match st with
    | .inl x :: st => some (g, .inl (lookT ps.toList x pc ((pc : Int) + d).toNat, L, st, h))
    | _ => none
  | .ireturn => match st with
    | [.inl v] => some (g && (m.2.2.2.1 == 0 || ((m.2.2.2.1 == 1 && (decide (v = 0) || decide (v = 1))) || ((m.2.2.2.1 == 2 && decide (v.toInt8.toInt32 = v)) || (m.2.2.2.1 == 3 && decide (v.toUInt32.toUInt16.toUInt32.toInt32 = v))))), .inr (.inr (.inl (some (.inl v), h))))
    | _ => none
  | .lreturn => match st with
    | [.inr (.inl v)] => some (g, .inr (.inr (.inl (some (.inr (.inl v)), h))))
    | _ => none
  | .areturn => match st with
    | [.inr (.inr v)] => some (g, .inr (.inr (.inl (some (.inr (.inr v)), h))))
    | _ => none
  | .return_ => match st with
    | [] => some (g, .inr (.inr (.inl (none, h))))
    | _ => none
  | .invokestatic _ => match popN m.2.2.2.2.1 [] st with
    | some (as, st) => some (g && (decide (catS st ≤ 8) && (m.2.2.2.1 == 0 || m.2.2.2.1 == 7)), .inr (.inr (.inr (m.2.2.1, as, pc + 3, L, st, h))))
    | none => none
  | .invokevirtual _ => match popN m.2.2.2.1 [] st with
    | some (as, .inr (.inr (.inl o)) :: st) => some (g && (decide (catS st ≤ 8) && gO h o (10 + m.2.2.2.2.1)), .inr (.inr (.inr (m.2.2.1, .inr (.inr (.inl o)) :: as, pc + 3, L, st, h))))
    | some (as, .inr (.inr (.inr j)) :: st) => some (g && (decide (catS st ≤ 8) && (isSt j && m.2.2.2.2.1 == 60)), .inr (.inr (.inr (m.2.2.1, .inr (.inr (.inr j)) :: as, pc + 3, L, st, h))))
    | _ => none
  | .invokespecial _ => match popN m.2.2.2.2.1 [] st with
    | some (as, .inr (.inr (.inl o)) :: st) => some (g && (decide (catS st ≤ 8) && (o.isSome && (m.2.2.2.1 == 0 || m.2.2.2.1 == 6))), .inr (.inr (.inr (m.2.2.1, .inr (.inr (.inl o)) :: as, pc + 3, L, st, h))))
    | _ => none
  | _ => none
def blk (rod : Nat → Nat × (Nat → Int32)) : List MI → Nat → ML → List MV → MH → Bool → Option (Bool × MO)
  | [], pc, L, st, h, g => some (g, .inl (pc, L, st, h))
  | m :: is, pc, L, st, h, g => match st1 rod m L st h with
    | some r => blk rod is (pc + m.2.1) r.2.1 r.2.2.1 r.2.2.2 (g && r.1)
    | none => match is with
      | [] => trm m pc L st h g
      | _ :: _ => none
abbrev MB : Type := List (Nat × List MI)
def getB : MB → Nat → Option (List MI)
  | [], _ => none
  | q :: r, pc => if q.1 = pc then some q.2 else getB r pc
/-- a method: its blocks, its locals -/
abbrev MM : Type := MB × Nat
def inS : List MV → ML
  | [] => []
  | v :: r => some v :: (if cat1 v = true then inS r else none :: inS r)
def inL (as : List MV) (n : Nat) : ML := inS as ++ List.replicate (n - (inS as).length) none
def lp (rod : Nat → Nat × (Nat → Int32)) (call : Nat → List MV → MH → Option (Option MV × MH)) (B : MB) : Nat → Nat → ML → List MV → MH → Option (Option MV × MH)
  | 0, _, _, _, _ => none
  | n + 1, pc, L, st, h => match getB B pc with
    | none => none
    | some is => match blk rod is pc L st h true with
      | some (true, .inl (pc, L, st, h)) => lp rod call B n pc L st h
      | some (true, .inr (.inl (true, (pc, L, st, h), _))) => lp rod call B n pc L st h
      | some (true, .inr (.inl (false, _, (pc, L, st, h)))) => lp rod call B n pc L st h
      | some (true, .inr (.inr (.inl r))) => some r
      | some (true, .inr (.inr (.inr (y, as, pc, L, st, h)))) => match call y as h with
        | none => none
        | some (v, h) => lp rod call B n pc L (v.toList ++ st) h
      | _ => none
def mcall (rod : Nat → Nat × (Nat → Int32)) (MT : Nat → Option MM) (F : Nat) : Nat → Nat → List MV → MH → Option (Option MV × MH)
  | 0, _, _, _ => none
  | d + 1, y, as, h => match MT y with
    | none => none
    | some M => if (inS as).length ≤ M.2 then lp rod (mcall rod MT F d) M.1 F 0 (inL as M.2) [] h else none
