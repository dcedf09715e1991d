/-! WHAT THE PROGRAM'S DATA MUST SATISFY: each instruction is the one decoded, its word stands in lw_tbl -/
def mvNf (c : Nat) : Nat := match gC[c]? with
  | some q => q.2.2
  | none => 0
def mvLen : Instr → Nat
  | .bipush _ | .ldc _ | .iload _ | .lload _ | .aload _ | .istore _ | .lstore _ | .astore _ | .newarray _ => 2
  | .sipush _ | .ldc_w _ | .ldc2_w _ | .iinc _ _ | .ifCond _ _ | .if_icmp _ _ | .if_acmp _ _ | .ifnull _ | .ifnonnull _ | .goto _ | .getfield _ | .putfield _ | .getstatic _ | .invokevirtual _ | .invokestatic _ | .invokespecial _ | .new _ | .anewarray _ => 3
  | .tableswitch _ _ _ _ | .lookupswitch _ _ => 0
  | _ => 1
def mvWd (w : Nat) (c : Cond) : Bool := decide (lw_tbl[w]? = some c)
/-- the host of every nest here -/
def mvHo : String := "MoonLodger"
def mvF (c k : Nat) : String × String × String × Bool := (gC.getD c ("", TX0, 0)).2.1 k
def mvCn (c : Nat) : String := (gC.getD c ("", TX0, 0)).1
/-- what an instruction's marks must be -/
def mvOk1 (k pc : Nat) (ins : Instr) (im : Int) (a b w : Nat) : Bool := match ins with
  | .ldc i => bif Nat.beq b 0 then mvWd w (.constant (mvT k).1.cls i (Int32.ofInt im)) else (decide ((mvT k).1.cls = "MoonLodger$Tape") && ((Nat.beq i 34 && Nat.beq a 2) || (Nat.beq i 78 && Nat.beq a 4)))
  | .ldc_w i => mvWd w (.constant (mvT k).1.cls i (Int32.ofInt im))
  | .ldc2_w i => mvWd w (.constantLong (mvT k).1.cls i (Int64.ofInt im))
  | .getfield i => bif Nat.beq a 13 then (bif Nat.beq b 0 then mvWd w (.fieldLink (mvT k).1.cls i "java/lang/String" "value" "[B") else (Nat.beq b 1 && mvWd w (.fieldLink (mvT k).1.cls i "java/lang/String" "coder" "B")))
      else (Nat.blt a 13 && Nat.blt b (mvNf a) && (mvWd w (.fieldLink (mvT k).1.cls i (mvCn a) (mvF a b).2.1 (mvF a b).2.2.1) || mvWd w (.fieldLinkNest (mvT k).1.cls i (mvCn a) (mvF a b).2.1 (mvF a b).2.2.1 mvHo)))
  | .putfield i => Nat.blt a 13 && Nat.blt b (mvNf a) && ((!(mvF a b).2.2.2 && (mvWd w (.fieldLink (mvT k).1.cls i (mvCn a) (mvF a b).2.1 (mvF a b).2.2.1) || mvWd w (.fieldLinkNest (mvT k).1.cls i (mvCn a) (mvF a b).2.1 (mvF a b).2.2.1 mvHo)))
      || ((mvF a b).2.2.2 && Nat.beq (mvT k).2.2.2.2.1 2 && decide ((mvT k).1.cls = mvCn a) && mvWd w (.fieldLink (mvT k).1.cls i (mvCn a) (mvF a b).2.1 (mvF a b).2.2.1)))
  | .getstatic i => (Nat.beq b 0 && decide (im = 1) && mvWd w (.fieldLink (mvT k).1.cls i "java/lang/String" "COMPACT_STRINGS" "Z"))
      || (Nat.beq b 1 && Nat.beq a 1 && mvWd w (.fieldLinkNest (mvT k).1.cls i "MoonLodger" "NAME_LAWS" "[I" mvHo))
      || (Nat.beq b 2 && Nat.beq a 6 && mvWd w (.fieldLink (mvT k).1.cls i "jdk/internal/util/Preconditions" "SIOOBE_FORMATTER" "Ljava/util/function/BiFunction;"))
  | .new i => Nat.blt a 13 && mvWd w (.classLink (mvT k).1.cls i (mvCn a))
  | .anewarray i => mvWd w (.classLink (mvT k).1.cls i "MoonLodger$Text")
  | .invokevirtual i => Nat.blt a mvN && Nat.beq (mvT a).2.2.2.2.1 1 && (mvWd w (.methodLink (mvT k).1.cls i (mvT a).1) || mvWd w (.methodLinkNest (mvT k).1.cls i (mvT a).1 mvHo))
  | .invokestatic i => bif Nat.beq b 2 then mvWd w (.methodLink (mvT k).1.cls i arraycopyName) else bif Nat.beq b 4 then mvWd w (.methodLink (mvT k).1.cls i Lib.Math.max.name) else bif Nat.beq b 5 then mvWd w (.methodLink (mvT k).1.cls i Lib.Math.min.name) else bif Nat.beq b 6 then mvWd w (.methodLink (mvT k).1.cls i Lib.MathLoose.max_long.x) else bif Nat.beq b 7 then mvWd w (.methodLink (mvT k).1.cls i Lib.MathLoose.min_long.x) else (Nat.blt a mvN && Nat.beq (mvT a).2.2.2.2.1 0 && (mvWd w (.methodLink (mvT k).1.cls i (mvT a).1) || mvWd w (.methodLinkNest (mvT k).1.cls i (mvT a).1 mvHo)))
  | .invokespecial i => bif Nat.beq b 3 then mvWd w (.methodLink (mvT k).1.cls i Lib.objectInit) else (Nat.blt a mvN && Nat.beq (mvT a).2.2.2.2.1 2 && (mvWd w (.methodLink (mvT k).1.cls i (mvT a).1) || mvWd w (.methodLinkNest (mvT k).1.cls i (mvT a).1 mvHo)))
  | .ifCond _ off | .if_icmp _ off | .if_acmp _ off | .ifnull off | .ifnonnull off | .goto off => decide (0 ≤ (pc : Int) + off)
  | .lookupswitch _ ps => (ps.toList.zip (ps.toList.drop 1)).all (fun q => decide (q.1.1 < q.2.1))
  | _ => true
def mvOk (k pc : Nat) : Bool := match mvC k pc with
  | (ins, _, im, a, b, w) => match ins with
    | .nop => true
    | _ => (match decode (mvT k).2.1 pc with
        | .ok (i, l) => decide (i = ins) && (Nat.beq (mvLen ins) 0 || Nat.beq (mvLen ins) l)
        | .error _ => false) && mvOk1 k pc ins im a b w
def mvSz (k : Nat) : Nat := (mvT k).2.1.size
def mvOkR (k a n : Nat) : Bool := (List.range n).all (fun i => mvOk k (a + i))
theorem mvOkR_at {k a n : Nat} (h : mvOkR k a n = true) (p : Nat) (h1 : a ≤ p) (h2 : p < a + n) : mvOk k p = true := by
  have h3 := List.all_eq_true.mp h (p - a) (List.mem_range.mpr (by omega))
  rw [show a + (p - a) = p by omega] at h3
  exact h3
theorem mvOk_no {k p : Nat} (h : mvC k p = mvNo) : mvOk k p = true := by
  unfold mvOk
  rw [h]
  rfl
/-- what a method's row must be (the law's own, row 0, apart) -/
def mvOkT (k : Nat) : Bool := match mvT k with
  | (y, bytes, ml, ret, kd, n, ci, w1, w2, w3, w4) => mvWd w1 (.code y bytes ml ret) && mvWd w4 (.initialized y.cls) && decide (y.cls ≠ "java/lang/invoke/MethodHandle") && decide (y.cls ≠ "java/lang/invoke/VarHandle") && plainName y.cls
      && decide ((parseMethodDescriptor y.desc).map (fun d => d.parameters.length) = some n) && Nat.ble ml 40
      && (match kd with
        | 0 => mvWd w2 (.static y)
        | 1 => mvWd w2 (.instanceMethod y) && mvWd w3 (.selects y.cls y y) && ((Nat.blt ci 13 && decide (mvCn ci = y.cls)) || (Nat.beq ci 13 && decide (y.cls = "java/lang/String")))
        | 2 => mvWd w2 (.instanceMethod y) && decide (y.name = "<init>") && decide (ret = none) && Nat.blt ci 13 && decide (mvCn ci = y.cls)
        | _ => false)
