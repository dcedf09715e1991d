/-! AN ABSTRACT MACHINE: typed stores over object ids. A state: (next id, slots made, shape of each id: (tag, size)), ints, longs, references. Tags: 0..12 an object of gC's class, 13 a String constant, 20 int[], 21 long[], 22 boolean[], 23 Text[], 24 bytes of a constant, 25 an int[] that nobody writes, 99 none. Ids 0..6: 0 the script, 1 NAME_LAWS, 2 WORDS, 3 its bytes, 4 SIGNS, 5 its bytes, 6 a formatter that is only carried -/
abbrev mvSt : Type := (Nat × Nat × (Nat → Nat × Nat)) × (Nat → Nat → Int32) × (Nat → Nat → Int64) × (Nat → Nat → Option Nat)
def mvU : Value := .float 0
def mvPut {α : Type} (h : Nat → Nat → α) (o k : Nat) (v : α) : Nat → Nat → α := va_up h o (va_up (h o) k v)
def mvRv (r : Option Nat) : Value := va_rf r
/-- what kind a field is: 0 int, 1 long, 2 reference, 3 boolean -/
def mvFk (c k : Nat) : Nat := bif Nat.beq c 13 then (bif Nat.beq k 0 then 2 else 0) else match gTy c k with
  | .int => 0
  | .long => 1
  | .boolean => 3
  | _ => 2
def mvIsL : Value → Bool
  | .long _ | .double _ => true
  | _ => false
/-- a store into a local: a long that it cuts is gone -/
def mvSto (L : List Value) (i : Nat) (v : Value) : List Value := (bif mvIsL (L.getD (i - 1) mvU) then L.set (i - 1) mvU else L).set i v
def mvSto2 (L : List Value) (i : Nat) (v : Value) : List Value := (mvSto L i v).set (i + 1) mvU
/-- a method's first locals -/
def mvLs (n : Nat) (args : List Value) : List Value := (args.flatMap fun v => bif mvIsL v then [v, mvU] else [v]) ++ List.replicate (n - (args.flatMap fun v => bif mvIsL v then [v, mvU] else [v]).length) mvU
/-- a step's end: the next place; an answer; a call (callee, arguments, what stays on the stack) -/
abbrev mvRs : Type := Option ((Nat × List Value × List Value × mvSt) ⊕ ((Option Value × mvSt) ⊕ (Nat × List Value × List Value)))
def mvGo (pc : Nat) (L st : List Value) (σ : mvSt) : mvRs := some (.inl (pc, L, st, σ))
def mvJ (pc : Nat) (off : Int) (L st : List Value) (σ : mvSt) : mvRs := if 0 ≤ (pc : Int) + off then mvGo ((pc : Int) + off).toNat L st σ else none
def mvRet (v : Option Value) (σ : mvSt) : mvRs := some (.inr (.inl (v, σ)))
def mvC1 (c : ClassFile.Cond) (x : Int32) : Prop := match c with
  | .eq => x = 0
  | .ne => ¬ x = 0
  | .lt => x < 0
  | .ge => 0 ≤ x
  | .gt => 0 < x
  | .le => x ≤ 0
def mvC2 (c : ClassFile.Cond) (x y : Int32) : Prop := match c with
  | .eq => x = y
  | .ne => ¬ x = y
  | .lt => x < y
  | .ge => y ≤ x
  | .gt => y < x
  | .le => x ≤ y
def mvD1 (c : ClassFile.Cond) (x : Int32) : Bool := match c with
  | .eq => decide (x = 0)
  | .ne => decide (¬ x = 0)
  | .lt => decide (x < 0)
  | .ge => decide (0 ≤ x)
  | .gt => decide (0 < x)
  | .le => decide (x ≤ 0)
def mvD2 (c : ClassFile.Cond) (x y : Int32) : Bool := match c with
  | .eq => decide (x = y)
  | .ne => decide (¬ x = y)
  | .lt => decide (x < y)
  | .ge => decide (y ≤ x)
  | .gt => decide (y < x)
  | .le => decide (x ≤ y)
/-- an index within, as the machine asks it -/
def mvIn (i : Int32) (n : Nat) : Bool := !(decide (i < 0) || Nat.ble n i.toNatClampNeg)
def mvPush (pc : Nat) (v : Value) (L st : List Value) (σ : mvSt) : mvRs := mvGo pc L (v :: st) σ
def mvLoadI (pc i : Nat) (L st : List Value) (σ : mvSt) : mvRs := match L[i]? with
  | some (.int x) => mvGo pc L (.int x :: st) σ
  | _ => none
def mvLoadL (pc i : Nat) (L st : List Value) (σ : mvSt) : mvRs := match L[i]? with
  | some (.long x) => mvGo pc L (.long x :: st) σ
  | _ => none
def mvLoadA (pc i : Nat) (L st : List Value) (σ : mvSt) : mvRs := match L[i]? with
  | some (.ref x) => mvGo pc L (.ref x :: st) σ
  | some .null => mvGo pc L (.null :: st) σ
  | _ => none
def mvStI (pc i : Nat) (L st : List Value) (σ : mvSt) : mvRs := match st with
  | .int x :: r => bif Nat.blt i L.length then mvGo pc (mvSto L i (.int x)) r σ else none
  | _ => none
def mvStL (pc i : Nat) (L st : List Value) (σ : mvSt) : mvRs := match st with
  | .long x :: r => bif Nat.blt (i + 1) L.length then mvGo pc (mvSto2 L i (.long x)) r σ else none
  | _ => none
def mvStA (pc i : Nat) (L st : List Value) (σ : mvSt) : mvRs := match st with
  | .ref x :: r => bif Nat.blt i L.length then mvGo pc (mvSto L i (.ref x)) r σ else none
  | .null :: r => bif Nat.blt i L.length then mvGo pc (mvSto L i .null) r σ else none
  | _ => none
def mvI2 (f : Int32 → Int32 → Int32) (pc : Nat) (L st : List Value) (σ : mvSt) : mvRs := match st with
  | .int y :: .int x :: r => mvGo pc L (.int (f x y) :: r) σ
  | _ => none
def mvI2z (f : Int32 → Int32 → Int32) (pc : Nat) (L st : List Value) (σ : mvSt) : mvRs := match st with
  | .int y :: .int x :: r => if y = 0 then none else mvGo pc L (.int (f x y) :: r) σ
  | _ => none
def mvI1 (f : Int32 → Int32) (pc : Nat) (L st : List Value) (σ : mvSt) : mvRs := match st with
  | .int x :: r => mvGo pc L (.int (f x) :: r) σ
  | _ => none
def mvL2 (f : Int64 → Int64 → Int64) (pc : Nat) (L st : List Value) (σ : mvSt) : mvRs := match st with
  | .long y :: .long x :: r => mvGo pc L (.long (f x y) :: r) σ
  | _ => none
def mvL2z (f : Int64 → Int64 → Int64) (pc : Nat) (L st : List Value) (σ : mvSt) : mvRs := match st with
  | .long y :: .long x :: r => if y = 0 then none else mvGo pc L (.long (f x y) :: r) σ
  | _ => none
def mvLsh (f : Int64 → Int64 → Int64) (pc : Nat) (L st : List Value) (σ : mvSt) : mvRs := match st with
  | .int y :: .long x :: r => mvGo pc L (.long (f x (y.toInt64 &&& 63)) :: r) σ
  | _ => none
def mvFv (c k : Nat) (fi : Nat → Int32) (fl : Nat → Int64) (fr : Nat → Option Nat) : Value := match mvFk c k with
  | 1 => .long (fl k)
  | 2 => mvRv (fr k)
  | _ => .int (fi k)
/-- a field read -/
def mvGet (pc c k : Nat) (L st : List Value) (σ : mvSt) : mvRs := match st with
  | .ref o :: r => bif Nat.beq (σ.1.2.2 o).1 c then mvGo pc L (mvFv c k (σ.2.1 o) (σ.2.2.1 o) (σ.2.2.2 o) :: r) σ else none
  | _ => none
def mvPutf (pc c k : Nat) (L st : List Value) (σ : mvSt) : mvRs := match mvFk c k, st with
  | 0, .int v :: .ref o :: r => bif Nat.beq (σ.1.2.2 o).1 c then mvGo pc L r (σ.1, mvPut σ.2.1 o k v, σ.2.2) else none
  | 3, .int v :: .ref o :: r => bif Nat.beq (σ.1.2.2 o).1 c && (decide (v = 0) || decide (v = 1)) then mvGo pc L r (σ.1, mvPut σ.2.1 o k v, σ.2.2) else none
  | 1, .long v :: .ref o :: r => bif Nat.beq (σ.1.2.2 o).1 c then mvGo pc L r (σ.1, σ.2.1, mvPut σ.2.2.1 o k v, σ.2.2.2) else none
  | 2, .ref v :: .ref o :: r => bif Nat.beq (σ.1.2.2 o).1 c then mvGo pc L r (σ.1, σ.2.1, σ.2.2.1, mvPut σ.2.2.2 o k (some v)) else none
  | 2, .null :: .ref o :: r => bif Nat.beq (σ.1.2.2 o).1 c then mvGo pc L r (σ.1, σ.2.1, σ.2.2.1, mvPut σ.2.2.2 o k none) else none
  | _, _ => none
def mvIald (pc : Nat) (L st : List Value) (σ : mvSt) : mvRs := match st with
  | .int i :: .ref o :: r => bif (Nat.beq (σ.1.2.2 o).1 20 || Nat.beq (σ.1.2.2 o).1 25) && mvIn i (σ.1.2.2 o).2 then mvGo pc L (.int (σ.2.1 o i.toNatClampNeg) :: r) σ else none
  | _ => none
def mvBald (pc : Nat) (L st : List Value) (σ : mvSt) : mvRs := match st with
  | .int i :: .ref o :: r => bif (Nat.beq (σ.1.2.2 o).1 22 || Nat.beq (σ.1.2.2 o).1 24) && mvIn i (σ.1.2.2 o).2 then mvGo pc L (.int (σ.2.1 o i.toNatClampNeg) :: r) σ else none
  | _ => none
def mvLald (pc : Nat) (L st : List Value) (σ : mvSt) : mvRs := match st with
  | .int i :: .ref o :: r => bif Nat.beq (σ.1.2.2 o).1 21 && mvIn i (σ.1.2.2 o).2 then mvGo pc L (.long (σ.2.2.1 o i.toNatClampNeg) :: r) σ else none
  | _ => none
def mvAald (pc : Nat) (L st : List Value) (σ : mvSt) : mvRs := match st with
  | .int i :: .ref o :: r => bif Nat.beq (σ.1.2.2 o).1 23 && mvIn i (σ.1.2.2 o).2 then mvGo pc L (mvRv (σ.2.2.2 o i.toNatClampNeg) :: r) σ else none
  | _ => none
def mvIast (pc : Nat) (L st : List Value) (σ : mvSt) : mvRs := match st with
  | .int v :: .int i :: .ref o :: r => bif Nat.beq (σ.1.2.2 o).1 20 && mvIn i (σ.1.2.2 o).2 then mvGo pc L r (σ.1, mvPut σ.2.1 o i.toNatClampNeg v, σ.2.2) else none
  | _ => none
def mvBast (pc : Nat) (L st : List Value) (σ : mvSt) : mvRs := match st with
  | .int v :: .int i :: .ref o :: r => bif Nat.beq (σ.1.2.2 o).1 22 && mvIn i (σ.1.2.2 o).2 && (decide (v = 0) || decide (v = 1)) then mvGo pc L r (σ.1, mvPut σ.2.1 o i.toNatClampNeg v, σ.2.2) else none
  | _ => none
def mvLast (pc : Nat) (L st : List Value) (σ : mvSt) : mvRs := match st with
  | .long v :: .int i :: .ref o :: r => bif Nat.beq (σ.1.2.2 o).1 21 && mvIn i (σ.1.2.2 o).2 then mvGo pc L r (σ.1, σ.2.1, mvPut σ.2.2.1 o i.toNatClampNeg v, σ.2.2.2) else none
  | _ => none
def mvAast (pc : Nat) (L st : List Value) (σ : mvSt) : mvRs := match st with
  | .ref v :: .int i :: .ref o :: r => bif Nat.beq (σ.1.2.2 o).1 23 && mvIn i (σ.1.2.2 o).2 && Nat.beq (σ.1.2.2 v).1 10 then mvGo pc L r (σ.1, σ.2.1, σ.2.2.1, mvPut σ.2.2.2 o i.toNatClampNeg (some v)) else none
  | _ => none
def mvAlen (pc : Nat) (L st : List Value) (σ : mvSt) : mvRs := match st with
  | .ref o :: r => bif Nat.ble 20 (σ.1.2.2 o).1 && Nat.ble (σ.1.2.2 o).1 25 then mvGo pc L (.int (nI (σ.1.2.2 o).2) :: r) σ else none
  | _ => none
/-- a new cell: its id is the next, its contents nothing -/
def mvMake (σ : mvSt) (tag size w : Nat) : mvSt := ((σ.1.1 + 1, σ.1.2.1 + w, va_up σ.1.2.2 σ.1.1 (tag, size)), va_up σ.2.1 σ.1.1 (fun _ => 0), va_up σ.2.2.1 σ.1.1 (fun _ => 0), va_up σ.2.2.2 σ.1.1 (fun _ => none))
def mvNewA (pc tag : Nat) (L st : List Value) (σ : mvSt) : mvRs := match st with
  | .int n :: r => bif decide (n < 0) || Nat.ble 65536 n.toNatClampNeg then none else mvGo pc L (.ref σ.1.1 :: r) (mvMake σ tag n.toNatClampNeg n.toNatClampNeg)
  | _ => none
/-- System.arraycopy between int rows -/
def mvCopy (pc : Nat) (L st : List Value) (σ : mvSt) : mvRs := match st with
  | .int n :: .int dp :: .ref d :: .int sp :: .ref o :: r =>
    bif Nat.beq (σ.1.2.2 o).1 20 && Nat.beq (σ.1.2.2 d).1 20 && !decide (sp < 0) && !decide (dp < 0) && !decide (n < 0) && Nat.ble (sp.toNatClampNeg + n.toNatClampNeg) (σ.1.2.2 o).2 && Nat.ble (dp.toNatClampNeg + n.toNatClampNeg) (σ.1.2.2 d).2
      && Nat.ble ((r.map fun v => v.category).sum) 8 then
      mvGo pc L r (σ.1, va_up σ.2.1 d (va_cpy (σ.2.1 o) (σ.2.1 d) sp.toNatClampNeg dp.toNatClampNeg n.toNatClampNeg), σ.2.2) else none
  | _ => none
/-- Math.max and Math.min -/
def mvM2 (f : Int32 → Int32 → Int32) (pc : Nat) (L st : List Value) (σ : mvSt) : mvRs := match st with
  | .int y :: .int x :: r => bif Nat.ble ((r.map fun v => v.category).sum) 8 then mvGo pc L (.int (f x y) :: r) σ else none
  | _ => none
def mvM2l (f : Int64 → Int64 → Int64) (pc : Nat) (L st : List Value) (σ : mvSt) : mvRs := match st with
  | .long y :: .long x :: r => bif Nat.ble ((r.map fun v => v.category).sum) 8 then mvGo pc L (.long (f x y) :: r) σ else none
  | _ => none
/-- a call: the callee's arguments off the stack; an object's method asks for an object of its class -/
def mvCall (k : Nat) (st : List Value) (σ : mvSt) : mvRs := match mvT k with
  | (_, _, ml, _, kd, n, ci, _, _, _, _) =>
    bif Nat.blt 0 k && Nat.beq (mvLs ml (st.take (n + (bif Nat.beq kd 0 then 0 else 1))).reverse).length ml && Nat.ble (n + (bif Nat.beq kd 0 then 0 else 1)) st.length && Nat.ble (((st.drop (n + (bif Nat.beq kd 0 then 0 else 1))).map fun v => v.category).sum) 8 then
      (match kd with
        | 0 => some (.inr (.inr (k, (st.take n).reverse, st.drop n)))
        | _ => match st[n]? with
          | some (.ref o) => bif Nat.beq (σ.1.2.2 o).1 ci then some (.inr (.inr (k, (st.take (n + 1)).reverse, st.drop (n + 1)))) else none
          | _ => none)
      else none
def mvIinc (pc i : Nat) (n : Int) (L st : List Value) (σ : mvSt) : mvRs := match L[i]? with
  | some (.int x) => mvGo (pc + 3) (mvSto L i (.int (x + Int32.ofInt n))) st σ
  | _ => none
def mvI2L (pc : Nat) (L st : List Value) (σ : mvSt) : mvRs := match st with
  | .int x :: r => mvGo (pc + 1) L (.long x.toInt64 :: r) σ
  | _ => none
def mvL2I (pc : Nat) (L st : List Value) (σ : mvSt) : mvRs := match st with
  | .long x :: r => mvGo (pc + 1) L (.int x.toInt32 :: r) σ
  | _ => none
def mvLneg (pc : Nat) (L st : List Value) (σ : mvSt) : mvRs := match st with
  | .long x :: r => mvGo (pc + 1) L (.long (-x) :: r) σ
  | _ => none
def mvLcmp (pc : Nat) (L st : List Value) (σ : mvSt) : mvRs := match st with
  | .long y :: .long x :: r => mvGo (pc + 1) L (.int (lg_cmp x y) :: r) σ
  | _ => none
def mvDup (pc : Nat) (L st : List Value) (σ : mvSt) : mvRs := match st with
  | v :: r => bif mvIsL v then none else mvGo (pc + 1) L (v :: v :: r) σ
  | _ => none
def mvDup2 (pc : Nat) (L st : List Value) (σ : mvSt) : mvRs := match st with
  | v :: u :: r => bif mvIsL v || mvIsL u then none else mvGo (pc + 1) L (v :: u :: v :: u :: r) σ
  | _ => none
def mvPop (pc : Nat) (L st : List Value) (σ : mvSt) : mvRs := match st with
  | v :: r => bif mvIsL v then none else mvGo (pc + 1) L r σ
  | _ => none
def mvIf1 (pc : Nat) (c : ClassFile.Cond) (off : Int) (L st : List Value) (σ : mvSt) : mvRs := match st with
  | .int x :: r => bif mvD1 c x then mvJ pc off L r σ else mvGo (pc + 3) L r σ
  | _ => none
def mvIf2 (pc : Nat) (c : ClassFile.Cond) (off : Int) (L st : List Value) (σ : mvSt) : mvRs := match st with
  | .int y :: .int x :: r => bif mvD2 c x y then mvJ pc off L r σ else mvGo (pc + 3) L r σ
  | _ => none
def mvIfN (pc : Nat) (off : Int) (L st : List Value) (σ : mvSt) : mvRs := match st with
  | .null :: r => mvJ pc off L r σ
  | .ref x :: r => bif Nat.beq x 6 then none else mvGo (pc + 3) L r σ
  | _ => none
def mvIfNN (pc : Nat) (off : Int) (L st : List Value) (σ : mvSt) : mvRs := match st with
  | .null :: r => mvGo (pc + 3) L r σ
  | .ref x :: r => bif Nat.beq x 6 then none else mvJ pc off L r σ
  | _ => none
def mvAcmp (pc : Nat) (off : Int) (L st : List Value) (σ : mvSt) : mvRs := match st with
  | .ref y :: .ref x :: r => bif Nat.ble 7 x && Nat.ble 7 y then (bif Nat.beq x y then mvGo (pc + 3) L r σ else mvJ pc off L r σ) else none
  | .null :: .ref x :: r => bif Nat.ble 7 x then mvJ pc off L r σ else none
  | .ref y :: .null :: r => bif Nat.ble 7 y then mvJ pc off L r σ else none
  | .null :: .null :: r => mvGo (pc + 3) L r σ
  | _ => none
def mvTab (pc : Nat) (d lo hi : Int) (offs : Array Int) (L st : List Value) (σ : mvSt) : mvRs := match st with
  | .int x :: r => if x.toInt < lo ∨ hi < x.toInt then mvJ pc d L r σ else (match offs[(x.toInt - lo).toNat]? with
      | some off => mvJ pc off L r σ
      | none => none)
  | _ => none
def mvLook (pc : Nat) (d : Int) (ps : Array (Int × Int)) (L st : List Value) (σ : mvSt) : mvRs := match st with
  | .int x :: r => mvJ pc (Op.lookupswitch.offset ps.toList d x.toInt) L r σ
  | _ => none
def mvIret (k : Nat) (st : List Value) (σ : mvSt) : mvRs := match st with
  | [.int v] => (match (mvT k).2.2.2.1 with
      | some .int => mvRet (some (.int v)) σ
      | some .boolean => bif decide (v = 0) || decide (v = 1) then mvRet (some (.int v)) σ else none
      | some .byte => if (v.toInt8.toInt32) = v then mvRet (some (.int v)) σ else none
      | some .char => if v.toUInt32.toUInt16.toUInt32.toInt32 = v then mvRet (some (.int v)) σ else none
      | _ => none)
  | _ => none
def mvLret (k : Nat) (st : List Value) (σ : mvSt) : mvRs := match st, (mvT k).2.2.2.1 with
  | [.long v], some .long => mvRet (some (.long v)) σ
  | _, _ => none
def mvAret (k : Nat) (st : List Value) (σ : mvSt) : mvRs := match st, (mvT k).2.2.2.1 with
  | [.ref v], some (.object _) => mvRet (some (.ref v)) σ
  | [.null], some (.object _) => mvRet (some .null) σ
  | _, _ => none
def mvVret (k : Nat) (st : List Value) (σ : mvSt) : mvRs := match st, (mvT k).2.2.2.1 with
  | [], none => mvRet none σ
  | _, _ => none
def mvObj (pc : Nat) (L st : List Value) (σ : mvSt) : mvRs := match st with
  | .ref o :: r => bif Nat.ble 7 o && Nat.ble ((r.map fun v => v.category).sum) 8 then mvGo pc L r σ else none
  | _ => none
def mvX (k pc : Nat) (ins : Instr) (im : Int) (a b : Nat) (L st : List Value) (σ : mvSt) : mvRs := match ins with
  | .iconst i => mvPush (pc + 1) (.int (Int32.ofInt i)) L st σ
  | .bipush i => mvPush (pc + 2) (.int (Int8.ofInt i).toInt32) L st σ
  | .sipush i => mvPush (pc + 3) (.int (Int16.ofInt i).toInt32) L st σ
  | .lconst i => mvPush (pc + 1) (.long (Int64.ofNat i)) L st σ
  | .aconst_null => mvPush (pc + 1) .null L st σ
  | .ldc _ => bif Nat.beq b 0 then mvPush (pc + 2) (.int (Int32.ofInt im)) L st σ else mvPush (pc + 2) (.ref a) L st σ
  | .ldc_w _ => mvPush (pc + 3) (.int (Int32.ofInt im)) L st σ
  | .ldc2_w _ => mvPush (pc + 3) (.long (Int64.ofInt im)) L st σ
  | .iload i => mvLoadI (pc + 2) i L st σ
  | .iload_n i => mvLoadI (pc + 1) i.val L st σ
  | .lload i => mvLoadL (pc + 2) i L st σ
  | .lload_n i => mvLoadL (pc + 1) i.val L st σ
  | .aload i => mvLoadA (pc + 2) i L st σ
  | .aload_n i => mvLoadA (pc + 1) i.val L st σ
  | .istore i => mvStI (pc + 2) i L st σ
  | .istore_n i => mvStI (pc + 1) i.val L st σ
  | .lstore i => mvStL (pc + 2) i L st σ
  | .lstore_n i => mvStL (pc + 1) i.val L st σ
  | .astore i => mvStA (pc + 2) i L st σ
  | .astore_n i => mvStA (pc + 1) i.val L st σ
  | .iinc i n => mvIinc pc i n L st σ
  | .iadd => mvI2 (fun x y => x + y) (pc + 1) L st σ
  | .isub => mvI2 (fun x y => x - y) (pc + 1) L st σ
  | .imul => mvI2 (fun x y => x * y) (pc + 1) L st σ
  | .iand => mvI2 (fun x y => x &&& y) (pc + 1) L st σ
  | .ior => mvI2 (fun x y => x ||| y) (pc + 1) L st σ
  | .ixor => mvI2 (fun x y => x ^^^ y) (pc + 1) L st σ
  | .ishl => mvI2 (fun x y => x <<< (y &&& 31)) (pc + 1) L st σ
  | .ishr => mvI2 (fun x y => x >>> (y &&& 31)) (pc + 1) L st σ
  | .iushr => mvI2 (fun x y => (x.toUInt32 >>> (y.toUInt32 &&& Int32.toUInt32 31)).toInt32) (pc + 1) L st σ
  | .idiv => mvI2z (fun x y => x / y) (pc + 1) L st σ
  | .irem => mvI2z (fun x y => x - x / y * y) (pc + 1) L st σ
  | .ineg => mvI1 (fun x => -x) (pc + 1) L st σ
  | .i2b => mvI1 (fun x => x.toInt8.toInt32) (pc + 1) L st σ
  | .i2c => mvI1 (fun x => (x.toUInt32 % 65536).toInt32) (pc + 1) L st σ
  | .i2l => mvI2L pc L st σ
  | .l2i => mvL2I pc L st σ
  | .ladd => mvL2 (fun x y => x + y) (pc + 1) L st σ
  | .lsub => mvL2 (fun x y => x - y) (pc + 1) L st σ
  | .lmul => mvL2 (fun x y => x * y) (pc + 1) L st σ
  | .lor => mvL2 (fun x y => x ||| y) (pc + 1) L st σ
  | .ldiv => mvL2z (fun x y => x / y) (pc + 1) L st σ
  | .lrem => mvL2z (fun x y => x - x / y * y) (pc + 1) L st σ
  | .lshl => mvLsh (fun x y => x <<< y) (pc + 1) L st σ
  | .lshr => mvLsh (fun x y => x >>> y) (pc + 1) L st σ
  | .lneg => mvLneg pc L st σ
  | .lcmp => mvLcmp pc L st σ
  | .dup => mvDup pc L st σ
  | .dup2 => mvDup2 pc L st σ
  | .pop => mvPop pc L st σ
  | .ifCond c off => mvIf1 pc c off L st σ
  | .if_icmp c off => mvIf2 pc c off L st σ
  | .ifnull off => mvIfN pc off L st σ
  | .ifnonnull off => mvIfNN pc off L st σ
  | .if_acmp .ne off => mvAcmp pc off L st σ
  | .goto off => mvJ pc off L st σ
  | .tableswitch d lo hi offs => mvTab pc d lo hi offs L st σ
  | .lookupswitch d ps => mvLook pc d ps L st σ
  | .getfield _ => mvGet (pc + 3) a b L st σ
  | .putfield _ => mvPutf (pc + 3) a b L st σ
  | .getstatic _ => bif Nat.beq b 0 then mvPush (pc + 3) (.int (Int32.ofInt im)) L st σ else mvPush (pc + 3) (.ref a) L st σ
  | .iaload => mvIald (pc + 1) L st σ
  | .laload => mvLald (pc + 1) L st σ
  | .baload => mvBald (pc + 1) L st σ
  | .aaload => mvAald (pc + 1) L st σ
  | .iastore => mvIast (pc + 1) L st σ
  | .lastore => mvLast (pc + 1) L st σ
  | .bastore => mvBast (pc + 1) L st σ
  | .aastore => mvAast (pc + 1) L st σ
  | .arraylength => mvAlen (pc + 1) L st σ
  | .newarray .int => mvNewA (pc + 2) 20 L st σ
  | .newarray .long => mvNewA (pc + 2) 21 L st σ
  | .newarray .boolean => mvNewA (pc + 2) 22 L st σ
  | .anewarray _ => mvNewA (pc + 3) 23 L st σ
  | .new _ => mvGo (pc + 3) L (.ref σ.1.1 :: st) (mvMake σ a (mvNf a) (mvNf a))
  | .invokevirtual _ => mvCall a st σ
  | .invokestatic _ => (match b with
      | 2 => mvCopy (pc + 3) L st σ
      | 4 => mvM2 (fun x y => if x < y then y else x) (pc + 3) L st σ
      | 5 => mvM2 (fun x y => if y < x then y else x) (pc + 3) L st σ
      | 6 => mvM2l (fun x y => if y < x then x else y) (pc + 3) L st σ
      | 7 => mvM2l (fun x y => if y < x then y else x) (pc + 3) L st σ
      | _ => mvCall a st σ)
  | .invokespecial _ => bif Nat.beq b 3 then mvObj (pc + 3) L st σ else mvCall a st σ
  | .ireturn => mvIret k st σ
  | .lreturn => mvLret k st σ
  | .areturn => mvAret k st σ
  | .return_ => mvVret k st σ
  | _ => none
def mvStep (k pc : Nat) (L st : List Value) (σ : mvSt) : mvRs := match mvC k pc with
  | (ins, _, im, a, b, _) => mvX k pc ins im a b L st σ
/-- the machine, by fuel, to a depth of calls d: an answer, and the state behind it -/
def mvRun : Nat → Nat → Nat → Nat → List Value → List Value → mvSt → Option (Option Value × mvSt)
  | 0, _, _, _, _, _, _ => none
  | n + 1, d, k, pc, L, st, σ => match mvStep k pc L st σ with
    | none => none
    | some (.inl (pc', L', st', σ')) => mvRun n d k pc' L' st' σ'
    | some (.inr (.inl r)) => some r
    | some (.inr (.inr (y, as, rest))) => match d with
      | 0 => none
      | d + 1 => match mvRun n d y 0 (mvLs (mvT y).2.2.1 as) [] σ with
        | none => none
        | some (v, σ') => mvRun n (d + 1) k (pc + 3) L (v.toList ++ rest) σ'
