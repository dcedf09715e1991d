/-! PURE WALKS: avA from a place, avE of a method; a rule an instruction -/
def avA (d k pc : Nat) (L st : List Value) (σ : mvSt) (r : Option Value × mvSt) : Prop := ∃ N, ∀ n, N ≤ n → mvRun n d k pc L st σ = some r
def avE (d k : Nat) (as : List Value) (σ : mvSt) (r : Option Value × mvSt) : Prop := avA d k 0 (mvLs (mvT k).2.2.1 as) [] σ r
section AV
variable {d k pc n : Nat} {L st : List Value} {σ : mvSt} {r : Option Value × mvSt}
theorem av_step {pc' : Nat} {L' st' : List Value} {σ' : mvSt} (h : mvStep k pc L st σ = some (.inl (pc', L', st', σ'))) (A : avA d k pc' L' st' σ' r) : avA d k pc L st σ r := by
  obtain ⟨N, hN⟩ := A
  refine ⟨N + 1, fun n hn => ?_⟩
  match n, hn with
  | n + 1, hn =>
    rw [mvRun, h]
    exact hN n (by omega)
theorem av_ret (h : mvStep k pc L st σ = some (.inr (.inl r))) : avA d k pc L st σ r := by
  refine ⟨1, fun n hn => ?_⟩
  match n, hn with
  | n + 1, hn => rw [mvRun, h]
theorem av_call {y : Nat} {as rest : List Value} {v : Option Value} {σ' : mvSt} (h : mvStep k pc L st σ = some (.inr (.inr (y, as, rest)))) (C : avE d y as σ (v, σ')) (A : avA (d + 1) k (pc + 3) L (v.toList ++ rest) σ' r) : avA (d + 1) k pc L st σ r := by
  obtain ⟨N1, h1⟩ := C
  obtain ⟨N2, h2⟩ := A
  refine ⟨N1 + N2 + 1, fun n hn => ?_⟩
  match n, hn with
  | n + 1, hn =>
    rw [mvRun, h]
    dsimp only
    rw [h1 n (by omega)]
    exact h2 n (by omega)
theorem av_eq {as : List Value} {r' : Option Value × mvSt} (C : avE d k as σ r') (h : r' = r) : avE d k as σ r := h ▸ C
theorem av_to {r' : Option Value × mvSt} (C : avA d k pc L st σ r') (h : r' = r) : avA d k pc L st σ r := h ▸ C
theorem av_sto {L L' : List Value} {i : Nat} {v : Value} (h : mvIsL (L.getD (i - 1) mvU) = false) (h2 : L.set i v = L') : mvSto L i v = L' := by
  unfold mvSto
  rw [h]
  exact h2
variable {l a b w : Nat} {im : Int}
variable {me : Nat × Nat × (Nat → Nat × Nat)} {h : Nat → Nat → Int32} {gl : Nat → Nat → Int64} {gr : Nat → Nat → Option Nat}
theorem av_s {ins : Instr} {pc' : Nat} {L' st' : List Value} {σ' : mvSt} (hC : mvC k pc = (ins, l, im, a, b, w)) (h : mvX k pc ins im a b L st σ = some (.inl (pc', L', st', σ'))) (A : avA d k pc' L' st' σ' r) : avA d k pc L st σ r :=
  av_step (by unfold mvStep; rw [hC]; exact h) A
theorem av_r {ins : Instr} (hC : mvC k pc = (ins, l, im, a, b, w)) (h : mvX k pc ins im a b L st σ = some (.inr (.inl r))) : avA d k pc L st σ r :=
  av_ret (by unfold mvStep; rw [hC]; exact h)

theorem a_iconst {i : Int} {v : Int32} (hC : mvC k pc = (.iconst i, l, im, a, b, w)) (hn : pc + 1 = n) (hv : Int32.ofInt i = v) (A : avA d k n L (.int v :: st) σ r) : avA d k pc L st σ r := by
  subst hn
  exact av_s hC (by subst hv; rfl) A
theorem a_bipush {i : Int} {v : Int32} (hC : mvC k pc = (.bipush i, l, im, a, b, w)) (hn : pc + 2 = n) (hv : (Int8.ofInt i).toInt32 = v) (A : avA d k n L (.int v :: st) σ r) : avA d k pc L st σ r := by
  subst hn
  exact av_s hC (by subst hv; rfl) A
theorem a_sipush {i : Int} {v : Int32} (hC : mvC k pc = (.sipush i, l, im, a, b, w)) (hn : pc + 3 = n) (hv : (Int16.ofInt i).toInt32 = v) (A : avA d k n L (.int v :: st) σ r) : avA d k pc L st σ r := by
  subst hn
  exact av_s hC (by subst hv; rfl) A
theorem a_lconst {i : Fin 2} {v : Int64} (hC : mvC k pc = (.lconst i, l, im, a, b, w)) (hn : pc + 1 = n) (hv : Int64.ofNat i = v) (A : avA d k n L (.long v :: st) σ r) : avA d k pc L st σ r := by
  subst hn
  exact av_s hC (by subst hv; rfl) A
theorem a_null  (hC : mvC k pc = (.aconst_null, l, im, a, b, w)) (hn : pc + 1 = n) (A : avA d k n L (.null :: st) σ r) : avA d k pc L st σ r := by
  subst hn
  exact av_s hC rfl A
theorem a_ldc {i : Nat} {v : Int32} (hC : mvC k pc = (.ldc i, l, im, a, 0, w)) (hn : pc + 2 = n) (hv : Int32.ofInt im = v) (A : avA d k n L (.int v :: st) σ r) : avA d k pc L st σ r := by
  subst hn hv
  exact av_s hC rfl A
theorem a_ldcS {i : Nat} (hC : mvC k pc = (.ldc i, l, im, a, 1, w)) (hn : pc + 2 = n) (A : avA d k n L (.ref a :: st) σ r) : avA d k pc L st σ r := by
  subst hn
  exact av_s hC rfl A
theorem a_gets0 {i : Nat} {v : Int32} (hC : mvC k pc = (.getstatic i, l, im, a, 0, w)) (hn : pc + 3 = n) (hv : Int32.ofInt im = v) (A : avA d k n L (.int v :: st) σ r) : avA d k pc L st σ r := by
  subst hn hv
  exact av_s hC rfl A
theorem a_gets1 {i b : Nat} (hC : mvC k pc = (.getstatic i, l, im, a, b + 1, w)) (hn : pc + 3 = n) (A : avA d k n L (.ref a :: st) σ r) : avA d k pc L st σ r := by
  subst hn
  exact av_s hC rfl A
theorem a_ldcw {i : Nat} {v : Int32} (hC : mvC k pc = (.ldc_w i, l, im, a, b, w)) (hn : pc + 3 = n) (hv : Int32.ofInt im = v) (A : avA d k n L (.int v :: st) σ r) : avA d k pc L st σ r := by
  subst hn
  exact av_s hC (by subst hv; rfl) A
theorem a_ldc2 {i : Nat} {v : Int64} (hC : mvC k pc = (.ldc2_w i, l, im, a, b, w)) (hn : pc + 3 = n) (hv : Int64.ofInt im = v) (A : avA d k n L (.long v :: st) σ r) : avA d k pc L st σ r := by
  subst hn
  exact av_s hC (by subst hv; rfl) A
theorem a_iload_0 {x : Int32} {t : List Value} (hC : mvC k pc = (.iload_n 0, l, im, a, b, w)) (hn : pc + 1 = n) (A : avA d k n (.int x :: t) (.int x :: st) σ r) : avA d k pc (.int x :: t) st σ r := by
  subst hn
  exact av_s hC rfl A
theorem a_lload_0 {x : Int64} {t : List Value} (hC : mvC k pc = (.lload_n 0, l, im, a, b, w)) (hn : pc + 1 = n) (A : avA d k n (.long x :: t) (.long x :: st) σ r) : avA d k pc (.long x :: t) st σ r := by
  subst hn
  exact av_s hC rfl A
theorem a_aload_0 {x : Nat} {t : List Value} (hC : mvC k pc = (.aload_n 0, l, im, a, b, w)) (hn : pc + 1 = n) (A : avA d k n (.ref x :: t) (.ref x :: st) σ r) : avA d k pc (.ref x :: t) st σ r := by
  subst hn
  exact av_s hC rfl A
theorem a_aloadN_0 {t : List Value} (hC : mvC k pc = (.aload_n 0, l, im, a, b, w)) (hn : pc + 1 = n) (A : avA d k n (.null :: t) (.null :: st) σ r) : avA d k pc (.null :: t) st σ r := by
  subst hn
  exact av_s hC rfl A
theorem a_aloadV_0 {x : Option Nat} {t : List Value} (hC : mvC k pc = (.aload_n 0, l, im, a, b, w)) (hn : pc + 1 = n) (A : avA d k n (mvRv x :: t) (mvRv x :: st) σ r) : avA d k pc (mvRv x :: t) st σ r := by
  subst hn
  cases x <;> exact av_s hC rfl A
theorem a_istore_0 {y : Value} {x : Int32} {t : List Value} (hC : mvC k pc = (.istore_n 0, l, im, a, b, w)) (hn : pc + 1 = n) (hy : mvIsL y = false) (A : avA d k n (.int x :: t) st σ r) : avA d k pc (y :: t) (.int x :: st) σ r := by
  subst hn
  exact av_s hC (by show mvGo _ (mvSto (y :: t) 0 (.int x)) _ _ = _; rw [av_sto (L := (y :: t)) (i := 0) hy rfl]; rfl) A
theorem a_astore_0 {y : Value} {x : Nat} {t : List Value} (hC : mvC k pc = (.astore_n 0, l, im, a, b, w)) (hn : pc + 1 = n) (hy : mvIsL y = false) (A : avA d k n (.ref x :: t) st σ r) : avA d k pc (y :: t) (.ref x :: st) σ r := by
  subst hn
  exact av_s hC (by show mvGo _ (mvSto (y :: t) 0 (.ref x)) _ _ = _; rw [av_sto (L := (y :: t)) (i := 0) hy rfl]; rfl) A
theorem a_aNstore_0 {y : Value} {t : List Value} (hC : mvC k pc = (.astore_n 0, l, im, a, b, w)) (hn : pc + 1 = n) (hy : mvIsL y = false) (A : avA d k n (.null :: t) st σ r) : avA d k pc (y :: t) (.null :: st) σ r := by
  subst hn
  exact av_s hC (by show mvGo _ (mvSto (y :: t) 0 (.null)) _ _ = _; rw [av_sto (L := (y :: t)) (i := 0) hy rfl]; rfl) A
theorem a_lstore_0 {y z : Value} {x : Int64} {t : List Value} (hC : mvC k pc = (.lstore_n 0, l, im, a, b, w)) (hn : pc + 1 = n) (hy : mvIsL y = false) (A : avA d k n (.long x :: mvU :: t) st σ r) : avA d k pc (y :: z :: t) (.long x :: st) σ r := by
  subst hn
  exact av_s hC (by show mvGo _ ((mvSto (y :: z :: t) 0 (.long x)).set (0 + 1) mvU) _ _ = _; rw [av_sto (L := (y :: z :: t)) (i := 0) hy rfl]; rfl) A
theorem a_iinc_0 {x v : Int32} {t : List Value} {i : Int} (hC : mvC k pc = (.iinc 0 i, l, im, a, b, w)) (hn : pc + 3 = n) (hv : x + Int32.ofInt i = v) (A : avA d k n (.int v :: t) st σ r) : avA d k pc (.int x :: t) st σ r := by
  subst hn hv
  exact av_s hC (by show mvGo _ (mvSto (.int x :: t) 0 (.int (x + Int32.ofInt i))) _ _ = _; rw [av_sto (L := (.int x :: t)) (i := 0) rfl rfl]; rfl) A
theorem a_iload_1 {x0 : Value} {x : Int32} {t : List Value} (hC : mvC k pc = (.iload_n 1, l, im, a, b, w)) (hn : pc + 1 = n) (A : avA d k n (x0 :: .int x :: t) (.int x :: st) σ r) : avA d k pc (x0 :: .int x :: t) st σ r := by
  subst hn
  exact av_s hC rfl A
theorem a_lload_1 {x0 : Value} {x : Int64} {t : List Value} (hC : mvC k pc = (.lload_n 1, l, im, a, b, w)) (hn : pc + 1 = n) (A : avA d k n (x0 :: .long x :: t) (.long x :: st) σ r) : avA d k pc (x0 :: .long x :: t) st σ r := by
  subst hn
  exact av_s hC rfl A
theorem a_aload_1 {x0 : Value} {x : Nat} {t : List Value} (hC : mvC k pc = (.aload_n 1, l, im, a, b, w)) (hn : pc + 1 = n) (A : avA d k n (x0 :: .ref x :: t) (.ref x :: st) σ r) : avA d k pc (x0 :: .ref x :: t) st σ r := by
  subst hn
  exact av_s hC rfl A
theorem a_aloadN_1 {x0 : Value} {t : List Value} (hC : mvC k pc = (.aload_n 1, l, im, a, b, w)) (hn : pc + 1 = n) (A : avA d k n (x0 :: .null :: t) (.null :: st) σ r) : avA d k pc (x0 :: .null :: t) st σ r := by
  subst hn
  exact av_s hC rfl A
theorem a_aloadV_1 {x0 : Value} {x : Option Nat} {t : List Value} (hC : mvC k pc = (.aload_n 1, l, im, a, b, w)) (hn : pc + 1 = n) (A : avA d k n (x0 :: mvRv x :: t) (mvRv x :: st) σ r) : avA d k pc (x0 :: mvRv x :: t) st σ r := by
  subst hn
  cases x <;> exact av_s hC rfl A
theorem a_istore_1 {x0 : Value} {y : Value} {x : Int32} {t : List Value} (hC : mvC k pc = (.istore_n 1, l, im, a, b, w)) (hn : pc + 1 = n) (hy : mvIsL x0 = false) (A : avA d k n (x0 :: .int x :: t) st σ r) : avA d k pc (x0 :: y :: t) (.int x :: st) σ r := by
  subst hn
  exact av_s hC (by show mvGo _ (mvSto (x0 :: y :: t) 1 (.int x)) _ _ = _; rw [av_sto (L := (x0 :: y :: t)) (i := 1) hy rfl]; rfl) A
theorem a_astore_1 {x0 : Value} {y : Value} {x : Nat} {t : List Value} (hC : mvC k pc = (.astore_n 1, l, im, a, b, w)) (hn : pc + 1 = n) (hy : mvIsL x0 = false) (A : avA d k n (x0 :: .ref x :: t) st σ r) : avA d k pc (x0 :: y :: t) (.ref x :: st) σ r := by
  subst hn
  exact av_s hC (by show mvGo _ (mvSto (x0 :: y :: t) 1 (.ref x)) _ _ = _; rw [av_sto (L := (x0 :: y :: t)) (i := 1) hy rfl]; rfl) A
theorem a_aNstore_1 {x0 : Value} {y : Value} {t : List Value} (hC : mvC k pc = (.astore_n 1, l, im, a, b, w)) (hn : pc + 1 = n) (hy : mvIsL x0 = false) (A : avA d k n (x0 :: .null :: t) st σ r) : avA d k pc (x0 :: y :: t) (.null :: st) σ r := by
  subst hn
  exact av_s hC (by show mvGo _ (mvSto (x0 :: y :: t) 1 (.null)) _ _ = _; rw [av_sto (L := (x0 :: y :: t)) (i := 1) hy rfl]; rfl) A
theorem a_lstore_1 {x0 : Value} {y z : Value} {x : Int64} {t : List Value} (hC : mvC k pc = (.lstore_n 1, l, im, a, b, w)) (hn : pc + 1 = n) (hy : mvIsL x0 = false) (A : avA d k n (x0 :: .long x :: mvU :: t) st σ r) : avA d k pc (x0 :: y :: z :: t) (.long x :: st) σ r := by
  subst hn
  exact av_s hC (by show mvGo _ ((mvSto (x0 :: y :: z :: t) 1 (.long x)).set (1 + 1) mvU) _ _ = _; rw [av_sto (L := (x0 :: y :: z :: t)) (i := 1) hy rfl]; rfl) A
theorem a_iinc_1 {x0 : Value} {x v : Int32} {t : List Value} {i : Int} (hC : mvC k pc = (.iinc 1 i, l, im, a, b, w)) (hn : pc + 3 = n) (hv : x + Int32.ofInt i = v) (hy : mvIsL x0 = false) (A : avA d k n (x0 :: .int v :: t) st σ r) : avA d k pc (x0 :: .int x :: t) st σ r := by
  subst hn hv
  exact av_s hC (by show mvGo _ (mvSto (x0 :: .int x :: t) 1 (.int (x + Int32.ofInt i))) _ _ = _; rw [av_sto (L := (x0 :: .int x :: t)) (i := 1) hy rfl]; rfl) A
theorem a_iload_2 {x0 x1 : Value} {x : Int32} {t : List Value} (hC : mvC k pc = (.iload_n 2, l, im, a, b, w)) (hn : pc + 1 = n) (A : avA d k n (x0 :: x1 :: .int x :: t) (.int x :: st) σ r) : avA d k pc (x0 :: x1 :: .int x :: t) st σ r := by
  subst hn
  exact av_s hC rfl A
theorem a_lload_2 {x0 x1 : Value} {x : Int64} {t : List Value} (hC : mvC k pc = (.lload_n 2, l, im, a, b, w)) (hn : pc + 1 = n) (A : avA d k n (x0 :: x1 :: .long x :: t) (.long x :: st) σ r) : avA d k pc (x0 :: x1 :: .long x :: t) st σ r := by
  subst hn
  exact av_s hC rfl A
theorem a_aload_2 {x0 x1 : Value} {x : Nat} {t : List Value} (hC : mvC k pc = (.aload_n 2, l, im, a, b, w)) (hn : pc + 1 = n) (A : avA d k n (x0 :: x1 :: .ref x :: t) (.ref x :: st) σ r) : avA d k pc (x0 :: x1 :: .ref x :: t) st σ r := by
  subst hn
  exact av_s hC rfl A
theorem a_aloadN_2 {x0 x1 : Value} {t : List Value} (hC : mvC k pc = (.aload_n 2, l, im, a, b, w)) (hn : pc + 1 = n) (A : avA d k n (x0 :: x1 :: .null :: t) (.null :: st) σ r) : avA d k pc (x0 :: x1 :: .null :: t) st σ r := by
  subst hn
  exact av_s hC rfl A
theorem a_aloadV_2 {x0 x1 : Value} {x : Option Nat} {t : List Value} (hC : mvC k pc = (.aload_n 2, l, im, a, b, w)) (hn : pc + 1 = n) (A : avA d k n (x0 :: x1 :: mvRv x :: t) (mvRv x :: st) σ r) : avA d k pc (x0 :: x1 :: mvRv x :: t) st σ r := by
  subst hn
  cases x <;> exact av_s hC rfl A
theorem a_istore_2 {x0 x1 : Value} {y : Value} {x : Int32} {t : List Value} (hC : mvC k pc = (.istore_n 2, l, im, a, b, w)) (hn : pc + 1 = n) (hy : mvIsL x1 = false) (A : avA d k n (x0 :: x1 :: .int x :: t) st σ r) : avA d k pc (x0 :: x1 :: y :: t) (.int x :: st) σ r := by
  subst hn
  exact av_s hC (by show mvGo _ (mvSto (x0 :: x1 :: y :: t) 2 (.int x)) _ _ = _; rw [av_sto (L := (x0 :: x1 :: y :: t)) (i := 2) hy rfl]; rfl) A
theorem a_astore_2 {x0 x1 : Value} {y : Value} {x : Nat} {t : List Value} (hC : mvC k pc = (.astore_n 2, l, im, a, b, w)) (hn : pc + 1 = n) (hy : mvIsL x1 = false) (A : avA d k n (x0 :: x1 :: .ref x :: t) st σ r) : avA d k pc (x0 :: x1 :: y :: t) (.ref x :: st) σ r := by
  subst hn
  exact av_s hC (by show mvGo _ (mvSto (x0 :: x1 :: y :: t) 2 (.ref x)) _ _ = _; rw [av_sto (L := (x0 :: x1 :: y :: t)) (i := 2) hy rfl]; rfl) A
theorem a_aNstore_2 {x0 x1 : Value} {y : Value} {t : List Value} (hC : mvC k pc = (.astore_n 2, l, im, a, b, w)) (hn : pc + 1 = n) (hy : mvIsL x1 = false) (A : avA d k n (x0 :: x1 :: .null :: t) st σ r) : avA d k pc (x0 :: x1 :: y :: t) (.null :: st) σ r := by
  subst hn
  exact av_s hC (by show mvGo _ (mvSto (x0 :: x1 :: y :: t) 2 (.null)) _ _ = _; rw [av_sto (L := (x0 :: x1 :: y :: t)) (i := 2) hy rfl]; rfl) A
theorem a_lstore_2 {x0 x1 : Value} {y z : Value} {x : Int64} {t : List Value} (hC : mvC k pc = (.lstore_n 2, l, im, a, b, w)) (hn : pc + 1 = n) (hy : mvIsL x1 = false) (A : avA d k n (x0 :: x1 :: .long x :: mvU :: t) st σ r) : avA d k pc (x0 :: x1 :: y :: z :: t) (.long x :: st) σ r := by
  subst hn
  exact av_s hC (by show mvGo _ ((mvSto (x0 :: x1 :: y :: z :: t) 2 (.long x)).set (2 + 1) mvU) _ _ = _; rw [av_sto (L := (x0 :: x1 :: y :: z :: t)) (i := 2) hy rfl]; rfl) A
theorem a_iinc_2 {x0 x1 : Value} {x v : Int32} {t : List Value} {i : Int} (hC : mvC k pc = (.iinc 2 i, l, im, a, b, w)) (hn : pc + 3 = n) (hv : x + Int32.ofInt i = v) (hy : mvIsL x1 = false) (A : avA d k n (x0 :: x1 :: .int v :: t) st σ r) : avA d k pc (x0 :: x1 :: .int x :: t) st σ r := by
  subst hn hv
  exact av_s hC (by show mvGo _ (mvSto (x0 :: x1 :: .int x :: t) 2 (.int (x + Int32.ofInt i))) _ _ = _; rw [av_sto (L := (x0 :: x1 :: .int x :: t)) (i := 2) hy rfl]; rfl) A
theorem a_iload_3 {x0 x1 x2 : Value} {x : Int32} {t : List Value} (hC : mvC k pc = (.iload_n 3, l, im, a, b, w)) (hn : pc + 1 = n) (A : avA d k n (x0 :: x1 :: x2 :: .int x :: t) (.int x :: st) σ r) : avA d k pc (x0 :: x1 :: x2 :: .int x :: t) st σ r := by
  subst hn
  exact av_s hC rfl A
theorem a_lload_3 {x0 x1 x2 : Value} {x : Int64} {t : List Value} (hC : mvC k pc = (.lload_n 3, l, im, a, b, w)) (hn : pc + 1 = n) (A : avA d k n (x0 :: x1 :: x2 :: .long x :: t) (.long x :: st) σ r) : avA d k pc (x0 :: x1 :: x2 :: .long x :: t) st σ r := by
  subst hn
  exact av_s hC rfl A
theorem a_aload_3 {x0 x1 x2 : Value} {x : Nat} {t : List Value} (hC : mvC k pc = (.aload_n 3, l, im, a, b, w)) (hn : pc + 1 = n) (A : avA d k n (x0 :: x1 :: x2 :: .ref x :: t) (.ref x :: st) σ r) : avA d k pc (x0 :: x1 :: x2 :: .ref x :: t) st σ r := by
  subst hn
  exact av_s hC rfl A
theorem a_aloadN_3 {x0 x1 x2 : Value} {t : List Value} (hC : mvC k pc = (.aload_n 3, l, im, a, b, w)) (hn : pc + 1 = n) (A : avA d k n (x0 :: x1 :: x2 :: .null :: t) (.null :: st) σ r) : avA d k pc (x0 :: x1 :: x2 :: .null :: t) st σ r := by
  subst hn
  exact av_s hC rfl A
theorem a_aloadV_3 {x0 x1 x2 : Value} {x : Option Nat} {t : List Value} (hC : mvC k pc = (.aload_n 3, l, im, a, b, w)) (hn : pc + 1 = n) (A : avA d k n (x0 :: x1 :: x2 :: mvRv x :: t) (mvRv x :: st) σ r) : avA d k pc (x0 :: x1 :: x2 :: mvRv x :: t) st σ r := by
  subst hn
  cases x <;> exact av_s hC rfl A
theorem a_istore_3 {x0 x1 x2 : Value} {y : Value} {x : Int32} {t : List Value} (hC : mvC k pc = (.istore_n 3, l, im, a, b, w)) (hn : pc + 1 = n) (hy : mvIsL x2 = false) (A : avA d k n (x0 :: x1 :: x2 :: .int x :: t) st σ r) : avA d k pc (x0 :: x1 :: x2 :: y :: t) (.int x :: st) σ r := by
  subst hn
  exact av_s hC (by show mvGo _ (mvSto (x0 :: x1 :: x2 :: y :: t) 3 (.int x)) _ _ = _; rw [av_sto (L := (x0 :: x1 :: x2 :: y :: t)) (i := 3) hy rfl]; rfl) A
theorem a_astore_3 {x0 x1 x2 : Value} {y : Value} {x : Nat} {t : List Value} (hC : mvC k pc = (.astore_n 3, l, im, a, b, w)) (hn : pc + 1 = n) (hy : mvIsL x2 = false) (A : avA d k n (x0 :: x1 :: x2 :: .ref x :: t) st σ r) : avA d k pc (x0 :: x1 :: x2 :: y :: t) (.ref x :: st) σ r := by
  subst hn
  exact av_s hC (by show mvGo _ (mvSto (x0 :: x1 :: x2 :: y :: t) 3 (.ref x)) _ _ = _; rw [av_sto (L := (x0 :: x1 :: x2 :: y :: t)) (i := 3) hy rfl]; rfl) A
theorem a_aNstore_3 {x0 x1 x2 : Value} {y : Value} {t : List Value} (hC : mvC k pc = (.astore_n 3, l, im, a, b, w)) (hn : pc + 1 = n) (hy : mvIsL x2 = false) (A : avA d k n (x0 :: x1 :: x2 :: .null :: t) st σ r) : avA d k pc (x0 :: x1 :: x2 :: y :: t) (.null :: st) σ r := by
  subst hn
  exact av_s hC (by show mvGo _ (mvSto (x0 :: x1 :: x2 :: y :: t) 3 (.null)) _ _ = _; rw [av_sto (L := (x0 :: x1 :: x2 :: y :: t)) (i := 3) hy rfl]; rfl) A
theorem a_lstore_3 {x0 x1 x2 : Value} {y z : Value} {x : Int64} {t : List Value} (hC : mvC k pc = (.lstore_n 3, l, im, a, b, w)) (hn : pc + 1 = n) (hy : mvIsL x2 = false) (A : avA d k n (x0 :: x1 :: x2 :: .long x :: mvU :: t) st σ r) : avA d k pc (x0 :: x1 :: x2 :: y :: z :: t) (.long x :: st) σ r := by
  subst hn
  exact av_s hC (by show mvGo _ ((mvSto (x0 :: x1 :: x2 :: y :: z :: t) 3 (.long x)).set (3 + 1) mvU) _ _ = _; rw [av_sto (L := (x0 :: x1 :: x2 :: y :: z :: t)) (i := 3) hy rfl]; rfl) A
theorem a_iinc_3 {x0 x1 x2 : Value} {x v : Int32} {t : List Value} {i : Int} (hC : mvC k pc = (.iinc 3 i, l, im, a, b, w)) (hn : pc + 3 = n) (hv : x + Int32.ofInt i = v) (hy : mvIsL x2 = false) (A : avA d k n (x0 :: x1 :: x2 :: .int v :: t) st σ r) : avA d k pc (x0 :: x1 :: x2 :: .int x :: t) st σ r := by
  subst hn hv
  exact av_s hC (by show mvGo _ (mvSto (x0 :: x1 :: x2 :: .int x :: t) 3 (.int (x + Int32.ofInt i))) _ _ = _; rw [av_sto (L := (x0 :: x1 :: x2 :: .int x :: t)) (i := 3) hy rfl]; rfl) A
theorem a_iload_4 {x0 x1 x2 x3 : Value} {x : Int32} {t : List Value} (hC : mvC k pc = (.iload 4, l, im, a, b, w)) (hn : pc + 2 = n) (A : avA d k n (x0 :: x1 :: x2 :: x3 :: .int x :: t) (.int x :: st) σ r) : avA d k pc (x0 :: x1 :: x2 :: x3 :: .int x :: t) st σ r := by
  subst hn
  exact av_s hC rfl A
theorem a_lload_4 {x0 x1 x2 x3 : Value} {x : Int64} {t : List Value} (hC : mvC k pc = (.lload 4, l, im, a, b, w)) (hn : pc + 2 = n) (A : avA d k n (x0 :: x1 :: x2 :: x3 :: .long x :: t) (.long x :: st) σ r) : avA d k pc (x0 :: x1 :: x2 :: x3 :: .long x :: t) st σ r := by
  subst hn
  exact av_s hC rfl A
theorem a_aload_4 {x0 x1 x2 x3 : Value} {x : Nat} {t : List Value} (hC : mvC k pc = (.aload 4, l, im, a, b, w)) (hn : pc + 2 = n) (A : avA d k n (x0 :: x1 :: x2 :: x3 :: .ref x :: t) (.ref x :: st) σ r) : avA d k pc (x0 :: x1 :: x2 :: x3 :: .ref x :: t) st σ r := by
  subst hn
  exact av_s hC rfl A
theorem a_aloadN_4 {x0 x1 x2 x3 : Value} {t : List Value} (hC : mvC k pc = (.aload 4, l, im, a, b, w)) (hn : pc + 2 = n) (A : avA d k n (x0 :: x1 :: x2 :: x3 :: .null :: t) (.null :: st) σ r) : avA d k pc (x0 :: x1 :: x2 :: x3 :: .null :: t) st σ r := by
  subst hn
  exact av_s hC rfl A
theorem a_aloadV_4 {x0 x1 x2 x3 : Value} {x : Option Nat} {t : List Value} (hC : mvC k pc = (.aload 4, l, im, a, b, w)) (hn : pc + 2 = n) (A : avA d k n (x0 :: x1 :: x2 :: x3 :: mvRv x :: t) (mvRv x :: st) σ r) : avA d k pc (x0 :: x1 :: x2 :: x3 :: mvRv x :: t) st σ r := by
  subst hn
  cases x <;> exact av_s hC rfl A
theorem a_istore_4 {x0 x1 x2 x3 : Value} {y : Value} {x : Int32} {t : List Value} (hC : mvC k pc = (.istore 4, l, im, a, b, w)) (hn : pc + 2 = n) (hy : mvIsL x3 = false) (A : avA d k n (x0 :: x1 :: x2 :: x3 :: .int x :: t) st σ r) : avA d k pc (x0 :: x1 :: x2 :: x3 :: y :: t) (.int x :: st) σ r := by
  subst hn
  exact av_s hC (by show mvGo _ (mvSto (x0 :: x1 :: x2 :: x3 :: y :: t) 4 (.int x)) _ _ = _; rw [av_sto (L := (x0 :: x1 :: x2 :: x3 :: y :: t)) (i := 4) hy rfl]; rfl) A
theorem a_astore_4 {x0 x1 x2 x3 : Value} {y : Value} {x : Nat} {t : List Value} (hC : mvC k pc = (.astore 4, l, im, a, b, w)) (hn : pc + 2 = n) (hy : mvIsL x3 = false) (A : avA d k n (x0 :: x1 :: x2 :: x3 :: .ref x :: t) st σ r) : avA d k pc (x0 :: x1 :: x2 :: x3 :: y :: t) (.ref x :: st) σ r := by
  subst hn
  exact av_s hC (by show mvGo _ (mvSto (x0 :: x1 :: x2 :: x3 :: y :: t) 4 (.ref x)) _ _ = _; rw [av_sto (L := (x0 :: x1 :: x2 :: x3 :: y :: t)) (i := 4) hy rfl]; rfl) A
theorem a_aNstore_4 {x0 x1 x2 x3 : Value} {y : Value} {t : List Value} (hC : mvC k pc = (.astore 4, l, im, a, b, w)) (hn : pc + 2 = n) (hy : mvIsL x3 = false) (A : avA d k n (x0 :: x1 :: x2 :: x3 :: .null :: t) st σ r) : avA d k pc (x0 :: x1 :: x2 :: x3 :: y :: t) (.null :: st) σ r := by
  subst hn
  exact av_s hC (by show mvGo _ (mvSto (x0 :: x1 :: x2 :: x3 :: y :: t) 4 (.null)) _ _ = _; rw [av_sto (L := (x0 :: x1 :: x2 :: x3 :: y :: t)) (i := 4) hy rfl]; rfl) A
theorem a_lstore_4 {x0 x1 x2 x3 : Value} {y z : Value} {x : Int64} {t : List Value} (hC : mvC k pc = (.lstore 4, l, im, a, b, w)) (hn : pc + 2 = n) (hy : mvIsL x3 = false) (A : avA d k n (x0 :: x1 :: x2 :: x3 :: .long x :: mvU :: t) st σ r) : avA d k pc (x0 :: x1 :: x2 :: x3 :: y :: z :: t) (.long x :: st) σ r := by
  subst hn
  exact av_s hC (by show mvGo _ ((mvSto (x0 :: x1 :: x2 :: x3 :: y :: z :: t) 4 (.long x)).set (4 + 1) mvU) _ _ = _; rw [av_sto (L := (x0 :: x1 :: x2 :: x3 :: y :: z :: t)) (i := 4) hy rfl]; rfl) A
theorem a_iinc_4 {x0 x1 x2 x3 : Value} {x v : Int32} {t : List Value} {i : Int} (hC : mvC k pc = (.iinc 4 i, l, im, a, b, w)) (hn : pc + 3 = n) (hv : x + Int32.ofInt i = v) (hy : mvIsL x3 = false) (A : avA d k n (x0 :: x1 :: x2 :: x3 :: .int v :: t) st σ r) : avA d k pc (x0 :: x1 :: x2 :: x3 :: .int x :: t) st σ r := by
  subst hn hv
  exact av_s hC (by show mvGo _ (mvSto (x0 :: x1 :: x2 :: x3 :: .int x :: t) 4 (.int (x + Int32.ofInt i))) _ _ = _; rw [av_sto (L := (x0 :: x1 :: x2 :: x3 :: .int x :: t)) (i := 4) hy rfl]; rfl) A
theorem a_iload_5 {x0 x1 x2 x3 x4 : Value} {x : Int32} {t : List Value} (hC : mvC k pc = (.iload 5, l, im, a, b, w)) (hn : pc + 2 = n) (A : avA d k n (x0 :: x1 :: x2 :: x3 :: x4 :: .int x :: t) (.int x :: st) σ r) : avA d k pc (x0 :: x1 :: x2 :: x3 :: x4 :: .int x :: t) st σ r := by
  subst hn
  exact av_s hC rfl A
theorem a_lload_5 {x0 x1 x2 x3 x4 : Value} {x : Int64} {t : List Value} (hC : mvC k pc = (.lload 5, l, im, a, b, w)) (hn : pc + 2 = n) (A : avA d k n (x0 :: x1 :: x2 :: x3 :: x4 :: .long x :: t) (.long x :: st) σ r) : avA d k pc (x0 :: x1 :: x2 :: x3 :: x4 :: .long x :: t) st σ r := by
  subst hn
  exact av_s hC rfl A
theorem a_aload_5 {x0 x1 x2 x3 x4 : Value} {x : Nat} {t : List Value} (hC : mvC k pc = (.aload 5, l, im, a, b, w)) (hn : pc + 2 = n) (A : avA d k n (x0 :: x1 :: x2 :: x3 :: x4 :: .ref x :: t) (.ref x :: st) σ r) : avA d k pc (x0 :: x1 :: x2 :: x3 :: x4 :: .ref x :: t) st σ r := by
  subst hn
  exact av_s hC rfl A
theorem a_aloadN_5 {x0 x1 x2 x3 x4 : Value} {t : List Value} (hC : mvC k pc = (.aload 5, l, im, a, b, w)) (hn : pc + 2 = n) (A : avA d k n (x0 :: x1 :: x2 :: x3 :: x4 :: .null :: t) (.null :: st) σ r) : avA d k pc (x0 :: x1 :: x2 :: x3 :: x4 :: .null :: t) st σ r := by
  subst hn
  exact av_s hC rfl A
theorem a_aloadV_5 {x0 x1 x2 x3 x4 : Value} {x : Option Nat} {t : List Value} (hC : mvC k pc = (.aload 5, l, im, a, b, w)) (hn : pc + 2 = n) (A : avA d k n (x0 :: x1 :: x2 :: x3 :: x4 :: mvRv x :: t) (mvRv x :: st) σ r) : avA d k pc (x0 :: x1 :: x2 :: x3 :: x4 :: mvRv x :: t) st σ r := by
  subst hn
  cases x <;> exact av_s hC rfl A
theorem a_istore_5 {x0 x1 x2 x3 x4 : Value} {y : Value} {x : Int32} {t : List Value} (hC : mvC k pc = (.istore 5, l, im, a, b, w)) (hn : pc + 2 = n) (hy : mvIsL x4 = false) (A : avA d k n (x0 :: x1 :: x2 :: x3 :: x4 :: .int x :: t) st σ r) : avA d k pc (x0 :: x1 :: x2 :: x3 :: x4 :: y :: t) (.int x :: st) σ r := by
  subst hn
  exact av_s hC (by show mvGo _ (mvSto (x0 :: x1 :: x2 :: x3 :: x4 :: y :: t) 5 (.int x)) _ _ = _; rw [av_sto (L := (x0 :: x1 :: x2 :: x3 :: x4 :: y :: t)) (i := 5) hy rfl]; rfl) A
theorem a_astore_5 {x0 x1 x2 x3 x4 : Value} {y : Value} {x : Nat} {t : List Value} (hC : mvC k pc = (.astore 5, l, im, a, b, w)) (hn : pc + 2 = n) (hy : mvIsL x4 = false) (A : avA d k n (x0 :: x1 :: x2 :: x3 :: x4 :: .ref x :: t) st σ r) : avA d k pc (x0 :: x1 :: x2 :: x3 :: x4 :: y :: t) (.ref x :: st) σ r := by
  subst hn
  exact av_s hC (by show mvGo _ (mvSto (x0 :: x1 :: x2 :: x3 :: x4 :: y :: t) 5 (.ref x)) _ _ = _; rw [av_sto (L := (x0 :: x1 :: x2 :: x3 :: x4 :: y :: t)) (i := 5) hy rfl]; rfl) A
theorem a_aNstore_5 {x0 x1 x2 x3 x4 : Value} {y : Value} {t : List Value} (hC : mvC k pc = (.astore 5, l, im, a, b, w)) (hn : pc + 2 = n) (hy : mvIsL x4 = false) (A : avA d k n (x0 :: x1 :: x2 :: x3 :: x4 :: .null :: t) st σ r) : avA d k pc (x0 :: x1 :: x2 :: x3 :: x4 :: y :: t) (.null :: st) σ r := by
  subst hn
  exact av_s hC (by show mvGo _ (mvSto (x0 :: x1 :: x2 :: x3 :: x4 :: y :: t) 5 (.null)) _ _ = _; rw [av_sto (L := (x0 :: x1 :: x2 :: x3 :: x4 :: y :: t)) (i := 5) hy rfl]; rfl) A
theorem a_lstore_5 {x0 x1 x2 x3 x4 : Value} {y z : Value} {x : Int64} {t : List Value} (hC : mvC k pc = (.lstore 5, l, im, a, b, w)) (hn : pc + 2 = n) (hy : mvIsL x4 = false) (A : avA d k n (x0 :: x1 :: x2 :: x3 :: x4 :: .long x :: mvU :: t) st σ r) : avA d k pc (x0 :: x1 :: x2 :: x3 :: x4 :: y :: z :: t) (.long x :: st) σ r := by
  subst hn
  exact av_s hC (by show mvGo _ ((mvSto (x0 :: x1 :: x2 :: x3 :: x4 :: y :: z :: t) 5 (.long x)).set (5 + 1) mvU) _ _ = _; rw [av_sto (L := (x0 :: x1 :: x2 :: x3 :: x4 :: y :: z :: t)) (i := 5) hy rfl]; rfl) A
theorem a_iinc_5 {x0 x1 x2 x3 x4 : Value} {x v : Int32} {t : List Value} {i : Int} (hC : mvC k pc = (.iinc 5 i, l, im, a, b, w)) (hn : pc + 3 = n) (hv : x + Int32.ofInt i = v) (hy : mvIsL x4 = false) (A : avA d k n (x0 :: x1 :: x2 :: x3 :: x4 :: .int v :: t) st σ r) : avA d k pc (x0 :: x1 :: x2 :: x3 :: x4 :: .int x :: t) st σ r := by
  subst hn hv
  exact av_s hC (by show mvGo _ (mvSto (x0 :: x1 :: x2 :: x3 :: x4 :: .int x :: t) 5 (.int (x + Int32.ofInt i))) _ _ = _; rw [av_sto (L := (x0 :: x1 :: x2 :: x3 :: x4 :: .int x :: t)) (i := 5) hy rfl]; rfl) A
theorem a_iload_6 {x0 x1 x2 x3 x4 x5 : Value} {x : Int32} {t : List Value} (hC : mvC k pc = (.iload 6, l, im, a, b, w)) (hn : pc + 2 = n) (A : avA d k n (x0 :: x1 :: x2 :: x3 :: x4 :: x5 :: .int x :: t) (.int x :: st) σ r) : avA d k pc (x0 :: x1 :: x2 :: x3 :: x4 :: x5 :: .int x :: t) st σ r := by
  subst hn
  exact av_s hC rfl A
theorem a_lload_6 {x0 x1 x2 x3 x4 x5 : Value} {x : Int64} {t : List Value} (hC : mvC k pc = (.lload 6, l, im, a, b, w)) (hn : pc + 2 = n) (A : avA d k n (x0 :: x1 :: x2 :: x3 :: x4 :: x5 :: .long x :: t) (.long x :: st) σ r) : avA d k pc (x0 :: x1 :: x2 :: x3 :: x4 :: x5 :: .long x :: t) st σ r := by
  subst hn
  exact av_s hC rfl A
theorem a_aload_6 {x0 x1 x2 x3 x4 x5 : Value} {x : Nat} {t : List Value} (hC : mvC k pc = (.aload 6, l, im, a, b, w)) (hn : pc + 2 = n) (A : avA d k n (x0 :: x1 :: x2 :: x3 :: x4 :: x5 :: .ref x :: t) (.ref x :: st) σ r) : avA d k pc (x0 :: x1 :: x2 :: x3 :: x4 :: x5 :: .ref x :: t) st σ r := by
  subst hn
  exact av_s hC rfl A
theorem a_aloadN_6 {x0 x1 x2 x3 x4 x5 : Value} {t : List Value} (hC : mvC k pc = (.aload 6, l, im, a, b, w)) (hn : pc + 2 = n) (A : avA d k n (x0 :: x1 :: x2 :: x3 :: x4 :: x5 :: .null :: t) (.null :: st) σ r) : avA d k pc (x0 :: x1 :: x2 :: x3 :: x4 :: x5 :: .null :: t) st σ r := by
  subst hn
  exact av_s hC rfl A
theorem a_aloadV_6 {x0 x1 x2 x3 x4 x5 : Value} {x : Option Nat} {t : List Value} (hC : mvC k pc = (.aload 6, l, im, a, b, w)) (hn : pc + 2 = n) (A : avA d k n (x0 :: x1 :: x2 :: x3 :: x4 :: x5 :: mvRv x :: t) (mvRv x :: st) σ r) : avA d k pc (x0 :: x1 :: x2 :: x3 :: x4 :: x5 :: mvRv x :: t) st σ r := by
  subst hn
  cases x <;> exact av_s hC rfl A
theorem a_istore_6 {x0 x1 x2 x3 x4 x5 : Value} {y : Value} {x : Int32} {t : List Value} (hC : mvC k pc = (.istore 6, l, im, a, b, w)) (hn : pc + 2 = n) (hy : mvIsL x5 = false) (A : avA d k n (x0 :: x1 :: x2 :: x3 :: x4 :: x5 :: .int x :: t) st σ r) : avA d k pc (x0 :: x1 :: x2 :: x3 :: x4 :: x5 :: y :: t) (.int x :: st) σ r := by
  subst hn
  exact av_s hC (by show mvGo _ (mvSto (x0 :: x1 :: x2 :: x3 :: x4 :: x5 :: y :: t) 6 (.int x)) _ _ = _; rw [av_sto (L := (x0 :: x1 :: x2 :: x3 :: x4 :: x5 :: y :: t)) (i := 6) hy rfl]; rfl) A
theorem a_astore_6 {x0 x1 x2 x3 x4 x5 : Value} {y : Value} {x : Nat} {t : List Value} (hC : mvC k pc = (.astore 6, l, im, a, b, w)) (hn : pc + 2 = n) (hy : mvIsL x5 = false) (A : avA d k n (x0 :: x1 :: x2 :: x3 :: x4 :: x5 :: .ref x :: t) st σ r) : avA d k pc (x0 :: x1 :: x2 :: x3 :: x4 :: x5 :: y :: t) (.ref x :: st) σ r := by
  subst hn
  exact av_s hC (by show mvGo _ (mvSto (x0 :: x1 :: x2 :: x3 :: x4 :: x5 :: y :: t) 6 (.ref x)) _ _ = _; rw [av_sto (L := (x0 :: x1 :: x2 :: x3 :: x4 :: x5 :: y :: t)) (i := 6) hy rfl]; rfl) A
theorem a_aNstore_6 {x0 x1 x2 x3 x4 x5 : Value} {y : Value} {t : List Value} (hC : mvC k pc = (.astore 6, l, im, a, b, w)) (hn : pc + 2 = n) (hy : mvIsL x5 = false) (A : avA d k n (x0 :: x1 :: x2 :: x3 :: x4 :: x5 :: .null :: t) st σ r) : avA d k pc (x0 :: x1 :: x2 :: x3 :: x4 :: x5 :: y :: t) (.null :: st) σ r := by
  subst hn
  exact av_s hC (by show mvGo _ (mvSto (x0 :: x1 :: x2 :: x3 :: x4 :: x5 :: y :: t) 6 (.null)) _ _ = _; rw [av_sto (L := (x0 :: x1 :: x2 :: x3 :: x4 :: x5 :: y :: t)) (i := 6) hy rfl]; rfl) A
theorem a_lstore_6 {x0 x1 x2 x3 x4 x5 : Value} {y z : Value} {x : Int64} {t : List Value} (hC : mvC k pc = (.lstore 6, l, im, a, b, w)) (hn : pc + 2 = n) (hy : mvIsL x5 = false) (A : avA d k n (x0 :: x1 :: x2 :: x3 :: x4 :: x5 :: .long x :: mvU :: t) st σ r) : avA d k pc (x0 :: x1 :: x2 :: x3 :: x4 :: x5 :: y :: z :: t) (.long x :: st) σ r := by
  subst hn
  exact av_s hC (by show mvGo _ ((mvSto (x0 :: x1 :: x2 :: x3 :: x4 :: x5 :: y :: z :: t) 6 (.long x)).set (6 + 1) mvU) _ _ = _; rw [av_sto (L := (x0 :: x1 :: x2 :: x3 :: x4 :: x5 :: y :: z :: t)) (i := 6) hy rfl]; rfl) A
theorem a_iinc_6 {x0 x1 x2 x3 x4 x5 : Value} {x v : Int32} {t : List Value} {i : Int} (hC : mvC k pc = (.iinc 6 i, l, im, a, b, w)) (hn : pc + 3 = n) (hv : x + Int32.ofInt i = v) (hy : mvIsL x5 = false) (A : avA d k n (x0 :: x1 :: x2 :: x3 :: x4 :: x5 :: .int v :: t) st σ r) : avA d k pc (x0 :: x1 :: x2 :: x3 :: x4 :: x5 :: .int x :: t) st σ r := by
  subst hn hv
  exact av_s hC (by show mvGo _ (mvSto (x0 :: x1 :: x2 :: x3 :: x4 :: x5 :: .int x :: t) 6 (.int (x + Int32.ofInt i))) _ _ = _; rw [av_sto (L := (x0 :: x1 :: x2 :: x3 :: x4 :: x5 :: .int x :: t)) (i := 6) hy rfl]; rfl) A
theorem a_iload_7 {x0 x1 x2 x3 x4 x5 x6 : Value} {x : Int32} {t : List Value} (hC : mvC k pc = (.iload 7, l, im, a, b, w)) (hn : pc + 2 = n) (A : avA d k n (x0 :: x1 :: x2 :: x3 :: x4 :: x5 :: x6 :: .int x :: t) (.int x :: st) σ r) : avA d k pc (x0 :: x1 :: x2 :: x3 :: x4 :: x5 :: x6 :: .int x :: t) st σ r := by
  subst hn
  exact av_s hC rfl A
theorem a_lload_7 {x0 x1 x2 x3 x4 x5 x6 : Value} {x : Int64} {t : List Value} (hC : mvC k pc = (.lload 7, l, im, a, b, w)) (hn : pc + 2 = n) (A : avA d k n (x0 :: x1 :: x2 :: x3 :: x4 :: x5 :: x6 :: .long x :: t) (.long x :: st) σ r) : avA d k pc (x0 :: x1 :: x2 :: x3 :: x4 :: x5 :: x6 :: .long x :: t) st σ r := by
  subst hn
  exact av_s hC rfl A
theorem a_aload_7 {x0 x1 x2 x3 x4 x5 x6 : Value} {x : Nat} {t : List Value} (hC : mvC k pc = (.aload 7, l, im, a, b, w)) (hn : pc + 2 = n) (A : avA d k n (x0 :: x1 :: x2 :: x3 :: x4 :: x5 :: x6 :: .ref x :: t) (.ref x :: st) σ r) : avA d k pc (x0 :: x1 :: x2 :: x3 :: x4 :: x5 :: x6 :: .ref x :: t) st σ r := by
  subst hn
  exact av_s hC rfl A
theorem a_aloadN_7 {x0 x1 x2 x3 x4 x5 x6 : Value} {t : List Value} (hC : mvC k pc = (.aload 7, l, im, a, b, w)) (hn : pc + 2 = n) (A : avA d k n (x0 :: x1 :: x2 :: x3 :: x4 :: x5 :: x6 :: .null :: t) (.null :: st) σ r) : avA d k pc (x0 :: x1 :: x2 :: x3 :: x4 :: x5 :: x6 :: .null :: t) st σ r := by
  subst hn
  exact av_s hC rfl A
theorem a_aloadV_7 {x0 x1 x2 x3 x4 x5 x6 : Value} {x : Option Nat} {t : List Value} (hC : mvC k pc = (.aload 7, l, im, a, b, w)) (hn : pc + 2 = n) (A : avA d k n (x0 :: x1 :: x2 :: x3 :: x4 :: x5 :: x6 :: mvRv x :: t) (mvRv x :: st) σ r) : avA d k pc (x0 :: x1 :: x2 :: x3 :: x4 :: x5 :: x6 :: mvRv x :: t) st σ r := by
  subst hn
  cases x <;> exact av_s hC rfl A
theorem a_istore_7 {x0 x1 x2 x3 x4 x5 x6 : Value} {y : Value} {x : Int32} {t : List Value} (hC : mvC k pc = (.istore 7, l, im, a, b, w)) (hn : pc + 2 = n) (hy : mvIsL x6 = false) (A : avA d k n (x0 :: x1 :: x2 :: x3 :: x4 :: x5 :: x6 :: .int x :: t) st σ r) : avA d k pc (x0 :: x1 :: x2 :: x3 :: x4 :: x5 :: x6 :: y :: t) (.int x :: st) σ r := by
  subst hn
  exact av_s hC (by show mvGo _ (mvSto (x0 :: x1 :: x2 :: x3 :: x4 :: x5 :: x6 :: y :: t) 7 (.int x)) _ _ = _; rw [av_sto (L := (x0 :: x1 :: x2 :: x3 :: x4 :: x5 :: x6 :: y :: t)) (i := 7) hy rfl]; rfl) A
theorem a_astore_7 {x0 x1 x2 x3 x4 x5 x6 : Value} {y : Value} {x : Nat} {t : List Value} (hC : mvC k pc = (.astore 7, l, im, a, b, w)) (hn : pc + 2 = n) (hy : mvIsL x6 = false) (A : avA d k n (x0 :: x1 :: x2 :: x3 :: x4 :: x5 :: x6 :: .ref x :: t) st σ r) : avA d k pc (x0 :: x1 :: x2 :: x3 :: x4 :: x5 :: x6 :: y :: t) (.ref x :: st) σ r := by
  subst hn
  exact av_s hC (by show mvGo _ (mvSto (x0 :: x1 :: x2 :: x3 :: x4 :: x5 :: x6 :: y :: t) 7 (.ref x)) _ _ = _; rw [av_sto (L := (x0 :: x1 :: x2 :: x3 :: x4 :: x5 :: x6 :: y :: t)) (i := 7) hy rfl]; rfl) A
theorem a_aNstore_7 {x0 x1 x2 x3 x4 x5 x6 : Value} {y : Value} {t : List Value} (hC : mvC k pc = (.astore 7, l, im, a, b, w)) (hn : pc + 2 = n) (hy : mvIsL x6 = false) (A : avA d k n (x0 :: x1 :: x2 :: x3 :: x4 :: x5 :: x6 :: .null :: t) st σ r) : avA d k pc (x0 :: x1 :: x2 :: x3 :: x4 :: x5 :: x6 :: y :: t) (.null :: st) σ r := by
  subst hn
  exact av_s hC (by show mvGo _ (mvSto (x0 :: x1 :: x2 :: x3 :: x4 :: x5 :: x6 :: y :: t) 7 (.null)) _ _ = _; rw [av_sto (L := (x0 :: x1 :: x2 :: x3 :: x4 :: x5 :: x6 :: y :: t)) (i := 7) hy rfl]; rfl) A
theorem a_lstore_7 {x0 x1 x2 x3 x4 x5 x6 : Value} {y z : Value} {x : Int64} {t : List Value} (hC : mvC k pc = (.lstore 7, l, im, a, b, w)) (hn : pc + 2 = n) (hy : mvIsL x6 = false) (A : avA d k n (x0 :: x1 :: x2 :: x3 :: x4 :: x5 :: x6 :: .long x :: mvU :: t) st σ r) : avA d k pc (x0 :: x1 :: x2 :: x3 :: x4 :: x5 :: x6 :: y :: z :: t) (.long x :: st) σ r := by
  subst hn
  exact av_s hC (by show mvGo _ ((mvSto (x0 :: x1 :: x2 :: x3 :: x4 :: x5 :: x6 :: y :: z :: t) 7 (.long x)).set (7 + 1) mvU) _ _ = _; rw [av_sto (L := (x0 :: x1 :: x2 :: x3 :: x4 :: x5 :: x6 :: y :: z :: t)) (i := 7) hy rfl]; rfl) A
theorem a_iinc_7 {x0 x1 x2 x3 x4 x5 x6 : Value} {x v : Int32} {t : List Value} {i : Int} (hC : mvC k pc = (.iinc 7 i, l, im, a, b, w)) (hn : pc + 3 = n) (hv : x + Int32.ofInt i = v) (hy : mvIsL x6 = false) (A : avA d k n (x0 :: x1 :: x2 :: x3 :: x4 :: x5 :: x6 :: .int v :: t) st σ r) : avA d k pc (x0 :: x1 :: x2 :: x3 :: x4 :: x5 :: x6 :: .int x :: t) st σ r := by
  subst hn hv
  exact av_s hC (by show mvGo _ (mvSto (x0 :: x1 :: x2 :: x3 :: x4 :: x5 :: x6 :: .int x :: t) 7 (.int (x + Int32.ofInt i))) _ _ = _; rw [av_sto (L := (x0 :: x1 :: x2 :: x3 :: x4 :: x5 :: x6 :: .int x :: t)) (i := 7) hy rfl]; rfl) A
theorem a_iload_8 {x0 x1 x2 x3 x4 x5 x6 x7 : Value} {x : Int32} {t : List Value} (hC : mvC k pc = (.iload 8, l, im, a, b, w)) (hn : pc + 2 = n) (A : avA d k n (x0 :: x1 :: x2 :: x3 :: x4 :: x5 :: x6 :: x7 :: .int x :: t) (.int x :: st) σ r) : avA d k pc (x0 :: x1 :: x2 :: x3 :: x4 :: x5 :: x6 :: x7 :: .int x :: t) st σ r := by
  subst hn
  exact av_s hC rfl A
theorem a_lload_8 {x0 x1 x2 x3 x4 x5 x6 x7 : Value} {x : Int64} {t : List Value} (hC : mvC k pc = (.lload 8, l, im, a, b, w)) (hn : pc + 2 = n) (A : avA d k n (x0 :: x1 :: x2 :: x3 :: x4 :: x5 :: x6 :: x7 :: .long x :: t) (.long x :: st) σ r) : avA d k pc (x0 :: x1 :: x2 :: x3 :: x4 :: x5 :: x6 :: x7 :: .long x :: t) st σ r := by
  subst hn
  exact av_s hC rfl A
theorem a_aload_8 {x0 x1 x2 x3 x4 x5 x6 x7 : Value} {x : Nat} {t : List Value} (hC : mvC k pc = (.aload 8, l, im, a, b, w)) (hn : pc + 2 = n) (A : avA d k n (x0 :: x1 :: x2 :: x3 :: x4 :: x5 :: x6 :: x7 :: .ref x :: t) (.ref x :: st) σ r) : avA d k pc (x0 :: x1 :: x2 :: x3 :: x4 :: x5 :: x6 :: x7 :: .ref x :: t) st σ r := by
  subst hn
  exact av_s hC rfl A
theorem a_aloadN_8 {x0 x1 x2 x3 x4 x5 x6 x7 : Value} {t : List Value} (hC : mvC k pc = (.aload 8, l, im, a, b, w)) (hn : pc + 2 = n) (A : avA d k n (x0 :: x1 :: x2 :: x3 :: x4 :: x5 :: x6 :: x7 :: .null :: t) (.null :: st) σ r) : avA d k pc (x0 :: x1 :: x2 :: x3 :: x4 :: x5 :: x6 :: x7 :: .null :: t) st σ r := by
  subst hn
  exact av_s hC rfl A
theorem a_aloadV_8 {x0 x1 x2 x3 x4 x5 x6 x7 : Value} {x : Option Nat} {t : List Value} (hC : mvC k pc = (.aload 8, l, im, a, b, w)) (hn : pc + 2 = n) (A : avA d k n (x0 :: x1 :: x2 :: x3 :: x4 :: x5 :: x6 :: x7 :: mvRv x :: t) (mvRv x :: st) σ r) : avA d k pc (x0 :: x1 :: x2 :: x3 :: x4 :: x5 :: x6 :: x7 :: mvRv x :: t) st σ r := by
  subst hn
  cases x <;> exact av_s hC rfl A
theorem a_istore_8 {x0 x1 x2 x3 x4 x5 x6 x7 : Value} {y : Value} {x : Int32} {t : List Value} (hC : mvC k pc = (.istore 8, l, im, a, b, w)) (hn : pc + 2 = n) (hy : mvIsL x7 = false) (A : avA d k n (x0 :: x1 :: x2 :: x3 :: x4 :: x5 :: x6 :: x7 :: .int x :: t) st σ r) : avA d k pc (x0 :: x1 :: x2 :: x3 :: x4 :: x5 :: x6 :: x7 :: y :: t) (.int x :: st) σ r := by
  subst hn
  exact av_s hC (by show mvGo _ (mvSto (x0 :: x1 :: x2 :: x3 :: x4 :: x5 :: x6 :: x7 :: y :: t) 8 (.int x)) _ _ = _; rw [av_sto (L := (x0 :: x1 :: x2 :: x3 :: x4 :: x5 :: x6 :: x7 :: y :: t)) (i := 8) hy rfl]; rfl) A
theorem a_astore_8 {x0 x1 x2 x3 x4 x5 x6 x7 : Value} {y : Value} {x : Nat} {t : List Value} (hC : mvC k pc = (.astore 8, l, im, a, b, w)) (hn : pc + 2 = n) (hy : mvIsL x7 = false) (A : avA d k n (x0 :: x1 :: x2 :: x3 :: x4 :: x5 :: x6 :: x7 :: .ref x :: t) st σ r) : avA d k pc (x0 :: x1 :: x2 :: x3 :: x4 :: x5 :: x6 :: x7 :: y :: t) (.ref x :: st) σ r := by
  subst hn
  exact av_s hC (by show mvGo _ (mvSto (x0 :: x1 :: x2 :: x3 :: x4 :: x5 :: x6 :: x7 :: y :: t) 8 (.ref x)) _ _ = _; rw [av_sto (L := (x0 :: x1 :: x2 :: x3 :: x4 :: x5 :: x6 :: x7 :: y :: t)) (i := 8) hy rfl]; rfl) A
theorem a_aNstore_8 {x0 x1 x2 x3 x4 x5 x6 x7 : Value} {y : Value} {t : List Value} (hC : mvC k pc = (.astore 8, l, im, a, b, w)) (hn : pc + 2 = n) (hy : mvIsL x7 = false) (A : avA d k n (x0 :: x1 :: x2 :: x3 :: x4 :: x5 :: x6 :: x7 :: .null :: t) st σ r) : avA d k pc (x0 :: x1 :: x2 :: x3 :: x4 :: x5 :: x6 :: x7 :: y :: t) (.null :: st) σ r := by
  subst hn
  exact av_s hC (by show mvGo _ (mvSto (x0 :: x1 :: x2 :: x3 :: x4 :: x5 :: x6 :: x7 :: y :: t) 8 (.null)) _ _ = _; rw [av_sto (L := (x0 :: x1 :: x2 :: x3 :: x4 :: x5 :: x6 :: x7 :: y :: t)) (i := 8) hy rfl]; rfl) A
theorem a_lstore_8 {x0 x1 x2 x3 x4 x5 x6 x7 : Value} {y z : Value} {x : Int64} {t : List Value} (hC : mvC k pc = (.lstore 8, l, im, a, b, w)) (hn : pc + 2 = n) (hy : mvIsL x7 = false) (A : avA d k n (x0 :: x1 :: x2 :: x3 :: x4 :: x5 :: x6 :: x7 :: .long x :: mvU :: t) st σ r) : avA d k pc (x0 :: x1 :: x2 :: x3 :: x4 :: x5 :: x6 :: x7 :: y :: z :: t) (.long x :: st) σ r := by
  subst hn
  exact av_s hC (by show mvGo _ ((mvSto (x0 :: x1 :: x2 :: x3 :: x4 :: x5 :: x6 :: x7 :: y :: z :: t) 8 (.long x)).set (8 + 1) mvU) _ _ = _; rw [av_sto (L := (x0 :: x1 :: x2 :: x3 :: x4 :: x5 :: x6 :: x7 :: y :: z :: t)) (i := 8) hy rfl]; rfl) A
theorem a_iinc_8 {x0 x1 x2 x3 x4 x5 x6 x7 : Value} {x v : Int32} {t : List Value} {i : Int} (hC : mvC k pc = (.iinc 8 i, l, im, a, b, w)) (hn : pc + 3 = n) (hv : x + Int32.ofInt i = v) (hy : mvIsL x7 = false) (A : avA d k n (x0 :: x1 :: x2 :: x3 :: x4 :: x5 :: x6 :: x7 :: .int v :: t) st σ r) : avA d k pc (x0 :: x1 :: x2 :: x3 :: x4 :: x5 :: x6 :: x7 :: .int x :: t) st σ r := by
  subst hn hv
  exact av_s hC (by show mvGo _ (mvSto (x0 :: x1 :: x2 :: x3 :: x4 :: x5 :: x6 :: x7 :: .int x :: t) 8 (.int (x + Int32.ofInt i))) _ _ = _; rw [av_sto (L := (x0 :: x1 :: x2 :: x3 :: x4 :: x5 :: x6 :: x7 :: .int x :: t)) (i := 8) hy rfl]; rfl) A
theorem a_iload_9 {x0 x1 x2 x3 x4 x5 x6 x7 x8 : Value} {x : Int32} {t : List Value} (hC : mvC k pc = (.iload 9, l, im, a, b, w)) (hn : pc + 2 = n) (A : avA d k n (x0 :: x1 :: x2 :: x3 :: x4 :: x5 :: x6 :: x7 :: x8 :: .int x :: t) (.int x :: st) σ r) : avA d k pc (x0 :: x1 :: x2 :: x3 :: x4 :: x5 :: x6 :: x7 :: x8 :: .int x :: t) st σ r := by
  subst hn
  exact av_s hC rfl A
theorem a_lload_9 {x0 x1 x2 x3 x4 x5 x6 x7 x8 : Value} {x : Int64} {t : List Value} (hC : mvC k pc = (.lload 9, l, im, a, b, w)) (hn : pc + 2 = n) (A : avA d k n (x0 :: x1 :: x2 :: x3 :: x4 :: x5 :: x6 :: x7 :: x8 :: .long x :: t) (.long x :: st) σ r) : avA d k pc (x0 :: x1 :: x2 :: x3 :: x4 :: x5 :: x6 :: x7 :: x8 :: .long x :: t) st σ r := by
  subst hn
  exact av_s hC rfl A
theorem a_aload_9 {x0 x1 x2 x3 x4 x5 x6 x7 x8 : Value} {x : Nat} {t : List Value} (hC : mvC k pc = (.aload 9, l, im, a, b, w)) (hn : pc + 2 = n) (A : avA d k n (x0 :: x1 :: x2 :: x3 :: x4 :: x5 :: x6 :: x7 :: x8 :: .ref x :: t) (.ref x :: st) σ r) : avA d k pc (x0 :: x1 :: x2 :: x3 :: x4 :: x5 :: x6 :: x7 :: x8 :: .ref x :: t) st σ r := by
  subst hn
  exact av_s hC rfl A
theorem a_aloadN_9 {x0 x1 x2 x3 x4 x5 x6 x7 x8 : Value} {t : List Value} (hC : mvC k pc = (.aload 9, l, im, a, b, w)) (hn : pc + 2 = n) (A : avA d k n (x0 :: x1 :: x2 :: x3 :: x4 :: x5 :: x6 :: x7 :: x8 :: .null :: t) (.null :: st) σ r) : avA d k pc (x0 :: x1 :: x2 :: x3 :: x4 :: x5 :: x6 :: x7 :: x8 :: .null :: t) st σ r := by
  subst hn
  exact av_s hC rfl A
theorem a_aloadV_9 {x0 x1 x2 x3 x4 x5 x6 x7 x8 : Value} {x : Option Nat} {t : List Value} (hC : mvC k pc = (.aload 9, l, im, a, b, w)) (hn : pc + 2 = n) (A : avA d k n (x0 :: x1 :: x2 :: x3 :: x4 :: x5 :: x6 :: x7 :: x8 :: mvRv x :: t) (mvRv x :: st) σ r) : avA d k pc (x0 :: x1 :: x2 :: x3 :: x4 :: x5 :: x6 :: x7 :: x8 :: mvRv x :: t) st σ r := by
  subst hn
  cases x <;> exact av_s hC rfl A
theorem a_istore_9 {x0 x1 x2 x3 x4 x5 x6 x7 x8 : Value} {y : Value} {x : Int32} {t : List Value} (hC : mvC k pc = (.istore 9, l, im, a, b, w)) (hn : pc + 2 = n) (hy : mvIsL x8 = false) (A : avA d k n (x0 :: x1 :: x2 :: x3 :: x4 :: x5 :: x6 :: x7 :: x8 :: .int x :: t) st σ r) : avA d k pc (x0 :: x1 :: x2 :: x3 :: x4 :: x5 :: x6 :: x7 :: x8 :: y :: t) (.int x :: st) σ r := by
  subst hn
  exact av_s hC (by show mvGo _ (mvSto (x0 :: x1 :: x2 :: x3 :: x4 :: x5 :: x6 :: x7 :: x8 :: y :: t) 9 (.int x)) _ _ = _; rw [av_sto (L := (x0 :: x1 :: x2 :: x3 :: x4 :: x5 :: x6 :: x7 :: x8 :: y :: t)) (i := 9) hy rfl]; rfl) A
theorem a_astore_9 {x0 x1 x2 x3 x4 x5 x6 x7 x8 : Value} {y : Value} {x : Nat} {t : List Value} (hC : mvC k pc = (.astore 9, l, im, a, b, w)) (hn : pc + 2 = n) (hy : mvIsL x8 = false) (A : avA d k n (x0 :: x1 :: x2 :: x3 :: x4 :: x5 :: x6 :: x7 :: x8 :: .ref x :: t) st σ r) : avA d k pc (x0 :: x1 :: x2 :: x3 :: x4 :: x5 :: x6 :: x7 :: x8 :: y :: t) (.ref x :: st) σ r := by
  subst hn
  exact av_s hC (by show mvGo _ (mvSto (x0 :: x1 :: x2 :: x3 :: x4 :: x5 :: x6 :: x7 :: x8 :: y :: t) 9 (.ref x)) _ _ = _; rw [av_sto (L := (x0 :: x1 :: x2 :: x3 :: x4 :: x5 :: x6 :: x7 :: x8 :: y :: t)) (i := 9) hy rfl]; rfl) A
theorem a_aNstore_9 {x0 x1 x2 x3 x4 x5 x6 x7 x8 : Value} {y : Value} {t : List Value} (hC : mvC k pc = (.astore 9, l, im, a, b, w)) (hn : pc + 2 = n) (hy : mvIsL x8 = false) (A : avA d k n (x0 :: x1 :: x2 :: x3 :: x4 :: x5 :: x6 :: x7 :: x8 :: .null :: t) st σ r) : avA d k pc (x0 :: x1 :: x2 :: x3 :: x4 :: x5 :: x6 :: x7 :: x8 :: y :: t) (.null :: st) σ r := by
  subst hn
  exact av_s hC (by show mvGo _ (mvSto (x0 :: x1 :: x2 :: x3 :: x4 :: x5 :: x6 :: x7 :: x8 :: y :: t) 9 (.null)) _ _ = _; rw [av_sto (L := (x0 :: x1 :: x2 :: x3 :: x4 :: x5 :: x6 :: x7 :: x8 :: y :: t)) (i := 9) hy rfl]; rfl) A
theorem a_lstore_9 {x0 x1 x2 x3 x4 x5 x6 x7 x8 : Value} {y z : Value} {x : Int64} {t : List Value} (hC : mvC k pc = (.lstore 9, l, im, a, b, w)) (hn : pc + 2 = n) (hy : mvIsL x8 = false) (A : avA d k n (x0 :: x1 :: x2 :: x3 :: x4 :: x5 :: x6 :: x7 :: x8 :: .long x :: mvU :: t) st σ r) : avA d k pc (x0 :: x1 :: x2 :: x3 :: x4 :: x5 :: x6 :: x7 :: x8 :: y :: z :: t) (.long x :: st) σ r := by
  subst hn
  exact av_s hC (by show mvGo _ ((mvSto (x0 :: x1 :: x2 :: x3 :: x4 :: x5 :: x6 :: x7 :: x8 :: y :: z :: t) 9 (.long x)).set (9 + 1) mvU) _ _ = _; rw [av_sto (L := (x0 :: x1 :: x2 :: x3 :: x4 :: x5 :: x6 :: x7 :: x8 :: y :: z :: t)) (i := 9) hy rfl]; rfl) A
theorem a_iinc_9 {x0 x1 x2 x3 x4 x5 x6 x7 x8 : Value} {x v : Int32} {t : List Value} {i : Int} (hC : mvC k pc = (.iinc 9 i, l, im, a, b, w)) (hn : pc + 3 = n) (hv : x + Int32.ofInt i = v) (hy : mvIsL x8 = false) (A : avA d k n (x0 :: x1 :: x2 :: x3 :: x4 :: x5 :: x6 :: x7 :: x8 :: .int v :: t) st σ r) : avA d k pc (x0 :: x1 :: x2 :: x3 :: x4 :: x5 :: x6 :: x7 :: x8 :: .int x :: t) st σ r := by
  subst hn hv
  exact av_s hC (by show mvGo _ (mvSto (x0 :: x1 :: x2 :: x3 :: x4 :: x5 :: x6 :: x7 :: x8 :: .int x :: t) 9 (.int (x + Int32.ofInt i))) _ _ = _; rw [av_sto (L := (x0 :: x1 :: x2 :: x3 :: x4 :: x5 :: x6 :: x7 :: x8 :: .int x :: t)) (i := 9) hy rfl]; rfl) A
theorem a_iload_10 {x0 x1 x2 x3 x4 x5 x6 x7 x8 x9 : Value} {x : Int32} {t : List Value} (hC : mvC k pc = (.iload 10, l, im, a, b, w)) (hn : pc + 2 = n) (A : avA d k n (x0 :: x1 :: x2 :: x3 :: x4 :: x5 :: x6 :: x7 :: x8 :: x9 :: .int x :: t) (.int x :: st) σ r) : avA d k pc (x0 :: x1 :: x2 :: x3 :: x4 :: x5 :: x6 :: x7 :: x8 :: x9 :: .int x :: t) st σ r := by
  subst hn
  exact av_s hC rfl A
theorem a_lload_10 {x0 x1 x2 x3 x4 x5 x6 x7 x8 x9 : Value} {x : Int64} {t : List Value} (hC : mvC k pc = (.lload 10, l, im, a, b, w)) (hn : pc + 2 = n) (A : avA d k n (x0 :: x1 :: x2 :: x3 :: x4 :: x5 :: x6 :: x7 :: x8 :: x9 :: .long x :: t) (.long x :: st) σ r) : avA d k pc (x0 :: x1 :: x2 :: x3 :: x4 :: x5 :: x6 :: x7 :: x8 :: x9 :: .long x :: t) st σ r := by
  subst hn
  exact av_s hC rfl A
theorem a_aload_10 {x0 x1 x2 x3 x4 x5 x6 x7 x8 x9 : Value} {x : Nat} {t : List Value} (hC : mvC k pc = (.aload 10, l, im, a, b, w)) (hn : pc + 2 = n) (A : avA d k n (x0 :: x1 :: x2 :: x3 :: x4 :: x5 :: x6 :: x7 :: x8 :: x9 :: .ref x :: t) (.ref x :: st) σ r) : avA d k pc (x0 :: x1 :: x2 :: x3 :: x4 :: x5 :: x6 :: x7 :: x8 :: x9 :: .ref x :: t) st σ r := by
  subst hn
  exact av_s hC rfl A
theorem a_aloadN_10 {x0 x1 x2 x3 x4 x5 x6 x7 x8 x9 : Value} {t : List Value} (hC : mvC k pc = (.aload 10, l, im, a, b, w)) (hn : pc + 2 = n) (A : avA d k n (x0 :: x1 :: x2 :: x3 :: x4 :: x5 :: x6 :: x7 :: x8 :: x9 :: .null :: t) (.null :: st) σ r) : avA d k pc (x0 :: x1 :: x2 :: x3 :: x4 :: x5 :: x6 :: x7 :: x8 :: x9 :: .null :: t) st σ r := by
  subst hn
  exact av_s hC rfl A
theorem a_aloadV_10 {x0 x1 x2 x3 x4 x5 x6 x7 x8 x9 : Value} {x : Option Nat} {t : List Value} (hC : mvC k pc = (.aload 10, l, im, a, b, w)) (hn : pc + 2 = n) (A : avA d k n (x0 :: x1 :: x2 :: x3 :: x4 :: x5 :: x6 :: x7 :: x8 :: x9 :: mvRv x :: t) (mvRv x :: st) σ r) : avA d k pc (x0 :: x1 :: x2 :: x3 :: x4 :: x5 :: x6 :: x7 :: x8 :: x9 :: mvRv x :: t) st σ r := by
  subst hn
  cases x <;> exact av_s hC rfl A
theorem a_istore_10 {x0 x1 x2 x3 x4 x5 x6 x7 x8 x9 : Value} {y : Value} {x : Int32} {t : List Value} (hC : mvC k pc = (.istore 10, l, im, a, b, w)) (hn : pc + 2 = n) (hy : mvIsL x9 = false) (A : avA d k n (x0 :: x1 :: x2 :: x3 :: x4 :: x5 :: x6 :: x7 :: x8 :: x9 :: .int x :: t) st σ r) : avA d k pc (x0 :: x1 :: x2 :: x3 :: x4 :: x5 :: x6 :: x7 :: x8 :: x9 :: y :: t) (.int x :: st) σ r := by
  subst hn
  exact av_s hC (by show mvGo _ (mvSto (x0 :: x1 :: x2 :: x3 :: x4 :: x5 :: x6 :: x7 :: x8 :: x9 :: y :: t) 10 (.int x)) _ _ = _; rw [av_sto (L := (x0 :: x1 :: x2 :: x3 :: x4 :: x5 :: x6 :: x7 :: x8 :: x9 :: y :: t)) (i := 10) hy rfl]; rfl) A
theorem a_astore_10 {x0 x1 x2 x3 x4 x5 x6 x7 x8 x9 : Value} {y : Value} {x : Nat} {t : List Value} (hC : mvC k pc = (.astore 10, l, im, a, b, w)) (hn : pc + 2 = n) (hy : mvIsL x9 = false) (A : avA d k n (x0 :: x1 :: x2 :: x3 :: x4 :: x5 :: x6 :: x7 :: x8 :: x9 :: .ref x :: t) st σ r) : avA d k pc (x0 :: x1 :: x2 :: x3 :: x4 :: x5 :: x6 :: x7 :: x8 :: x9 :: y :: t) (.ref x :: st) σ r := by
  subst hn
  exact av_s hC (by show mvGo _ (mvSto (x0 :: x1 :: x2 :: x3 :: x4 :: x5 :: x6 :: x7 :: x8 :: x9 :: y :: t) 10 (.ref x)) _ _ = _; rw [av_sto (L := (x0 :: x1 :: x2 :: x3 :: x4 :: x5 :: x6 :: x7 :: x8 :: x9 :: y :: t)) (i := 10) hy rfl]; rfl) A
theorem a_aNstore_10 {x0 x1 x2 x3 x4 x5 x6 x7 x8 x9 : Value} {y : Value} {t : List Value} (hC : mvC k pc = (.astore 10, l, im, a, b, w)) (hn : pc + 2 = n) (hy : mvIsL x9 = false) (A : avA d k n (x0 :: x1 :: x2 :: x3 :: x4 :: x5 :: x6 :: x7 :: x8 :: x9 :: .null :: t) st σ r) : avA d k pc (x0 :: x1 :: x2 :: x3 :: x4 :: x5 :: x6 :: x7 :: x8 :: x9 :: y :: t) (.null :: st) σ r := by
  subst hn
  exact av_s hC (by show mvGo _ (mvSto (x0 :: x1 :: x2 :: x3 :: x4 :: x5 :: x6 :: x7 :: x8 :: x9 :: y :: t) 10 (.null)) _ _ = _; rw [av_sto (L := (x0 :: x1 :: x2 :: x3 :: x4 :: x5 :: x6 :: x7 :: x8 :: x9 :: y :: t)) (i := 10) hy rfl]; rfl) A
theorem a_lstore_10 {x0 x1 x2 x3 x4 x5 x6 x7 x8 x9 : Value} {y z : Value} {x : Int64} {t : List Value} (hC : mvC k pc = (.lstore 10, l, im, a, b, w)) (hn : pc + 2 = n) (hy : mvIsL x9 = false) (A : avA d k n (x0 :: x1 :: x2 :: x3 :: x4 :: x5 :: x6 :: x7 :: x8 :: x9 :: .long x :: mvU :: t) st σ r) : avA d k pc (x0 :: x1 :: x2 :: x3 :: x4 :: x5 :: x6 :: x7 :: x8 :: x9 :: y :: z :: t) (.long x :: st) σ r := by
  subst hn
  exact av_s hC (by show mvGo _ ((mvSto (x0 :: x1 :: x2 :: x3 :: x4 :: x5 :: x6 :: x7 :: x8 :: x9 :: y :: z :: t) 10 (.long x)).set (10 + 1) mvU) _ _ = _; rw [av_sto (L := (x0 :: x1 :: x2 :: x3 :: x4 :: x5 :: x6 :: x7 :: x8 :: x9 :: y :: z :: t)) (i := 10) hy rfl]; rfl) A
theorem a_iinc_10 {x0 x1 x2 x3 x4 x5 x6 x7 x8 x9 : Value} {x v : Int32} {t : List Value} {i : Int} (hC : mvC k pc = (.iinc 10 i, l, im, a, b, w)) (hn : pc + 3 = n) (hv : x + Int32.ofInt i = v) (hy : mvIsL x9 = false) (A : avA d k n (x0 :: x1 :: x2 :: x3 :: x4 :: x5 :: x6 :: x7 :: x8 :: x9 :: .int v :: t) st σ r) : avA d k pc (x0 :: x1 :: x2 :: x3 :: x4 :: x5 :: x6 :: x7 :: x8 :: x9 :: .int x :: t) st σ r := by
  subst hn hv
  exact av_s hC (by show mvGo _ (mvSto (x0 :: x1 :: x2 :: x3 :: x4 :: x5 :: x6 :: x7 :: x8 :: x9 :: .int x :: t) 10 (.int (x + Int32.ofInt i))) _ _ = _; rw [av_sto (L := (x0 :: x1 :: x2 :: x3 :: x4 :: x5 :: x6 :: x7 :: x8 :: x9 :: .int x :: t)) (i := 10) hy rfl]; rfl) A
theorem a_iload_11 {x0 x1 x2 x3 x4 x5 x6 x7 x8 x9 x10 : Value} {x : Int32} {t : List Value} (hC : mvC k pc = (.iload 11, l, im, a, b, w)) (hn : pc + 2 = n) (A : avA d k n (x0 :: x1 :: x2 :: x3 :: x4 :: x5 :: x6 :: x7 :: x8 :: x9 :: x10 :: .int x :: t) (.int x :: st) σ r) : avA d k pc (x0 :: x1 :: x2 :: x3 :: x4 :: x5 :: x6 :: x7 :: x8 :: x9 :: x10 :: .int x :: t) st σ r := by
  subst hn
  exact av_s hC rfl A
theorem a_lload_11 {x0 x1 x2 x3 x4 x5 x6 x7 x8 x9 x10 : Value} {x : Int64} {t : List Value} (hC : mvC k pc = (.lload 11, l, im, a, b, w)) (hn : pc + 2 = n) (A : avA d k n (x0 :: x1 :: x2 :: x3 :: x4 :: x5 :: x6 :: x7 :: x8 :: x9 :: x10 :: .long x :: t) (.long x :: st) σ r) : avA d k pc (x0 :: x1 :: x2 :: x3 :: x4 :: x5 :: x6 :: x7 :: x8 :: x9 :: x10 :: .long x :: t) st σ r := by
  subst hn
  exact av_s hC rfl A
theorem a_aload_11 {x0 x1 x2 x3 x4 x5 x6 x7 x8 x9 x10 : Value} {x : Nat} {t : List Value} (hC : mvC k pc = (.aload 11, l, im, a, b, w)) (hn : pc + 2 = n) (A : avA d k n (x0 :: x1 :: x2 :: x3 :: x4 :: x5 :: x6 :: x7 :: x8 :: x9 :: x10 :: .ref x :: t) (.ref x :: st) σ r) : avA d k pc (x0 :: x1 :: x2 :: x3 :: x4 :: x5 :: x6 :: x7 :: x8 :: x9 :: x10 :: .ref x :: t) st σ r := by
  subst hn
  exact av_s hC rfl A
theorem a_aloadN_11 {x0 x1 x2 x3 x4 x5 x6 x7 x8 x9 x10 : Value} {t : List Value} (hC : mvC k pc = (.aload 11, l, im, a, b, w)) (hn : pc + 2 = n) (A : avA d k n (x0 :: x1 :: x2 :: x3 :: x4 :: x5 :: x6 :: x7 :: x8 :: x9 :: x10 :: .null :: t) (.null :: st) σ r) : avA d k pc (x0 :: x1 :: x2 :: x3 :: x4 :: x5 :: x6 :: x7 :: x8 :: x9 :: x10 :: .null :: t) st σ r := by
  subst hn
  exact av_s hC rfl A
theorem a_aloadV_11 {x0 x1 x2 x3 x4 x5 x6 x7 x8 x9 x10 : Value} {x : Option Nat} {t : List Value} (hC : mvC k pc = (.aload 11, l, im, a, b, w)) (hn : pc + 2 = n) (A : avA d k n (x0 :: x1 :: x2 :: x3 :: x4 :: x5 :: x6 :: x7 :: x8 :: x9 :: x10 :: mvRv x :: t) (mvRv x :: st) σ r) : avA d k pc (x0 :: x1 :: x2 :: x3 :: x4 :: x5 :: x6 :: x7 :: x8 :: x9 :: x10 :: mvRv x :: t) st σ r := by
  subst hn
  cases x <;> exact av_s hC rfl A
theorem a_istore_11 {x0 x1 x2 x3 x4 x5 x6 x7 x8 x9 x10 : Value} {y : Value} {x : Int32} {t : List Value} (hC : mvC k pc = (.istore 11, l, im, a, b, w)) (hn : pc + 2 = n) (hy : mvIsL x10 = false) (A : avA d k n (x0 :: x1 :: x2 :: x3 :: x4 :: x5 :: x6 :: x7 :: x8 :: x9 :: x10 :: .int x :: t) st σ r) : avA d k pc (x0 :: x1 :: x2 :: x3 :: x4 :: x5 :: x6 :: x7 :: x8 :: x9 :: x10 :: y :: t) (.int x :: st) σ r := by
  subst hn
  exact av_s hC (by show mvGo _ (mvSto (x0 :: x1 :: x2 :: x3 :: x4 :: x5 :: x6 :: x7 :: x8 :: x9 :: x10 :: y :: t) 11 (.int x)) _ _ = _; rw [av_sto (L := (x0 :: x1 :: x2 :: x3 :: x4 :: x5 :: x6 :: x7 :: x8 :: x9 :: x10 :: y :: t)) (i := 11) hy rfl]; rfl) A
theorem a_astore_11 {x0 x1 x2 x3 x4 x5 x6 x7 x8 x9 x10 : Value} {y : Value} {x : Nat} {t : List Value} (hC : mvC k pc = (.astore 11, l, im, a, b, w)) (hn : pc + 2 = n) (hy : mvIsL x10 = false) (A : avA d k n (x0 :: x1 :: x2 :: x3 :: x4 :: x5 :: x6 :: x7 :: x8 :: x9 :: x10 :: .ref x :: t) st σ r) : avA d k pc (x0 :: x1 :: x2 :: x3 :: x4 :: x5 :: x6 :: x7 :: x8 :: x9 :: x10 :: y :: t) (.ref x :: st) σ r := by
  subst hn
  exact av_s hC (by show mvGo _ (mvSto (x0 :: x1 :: x2 :: x3 :: x4 :: x5 :: x6 :: x7 :: x8 :: x9 :: x10 :: y :: t) 11 (.ref x)) _ _ = _; rw [av_sto (L := (x0 :: x1 :: x2 :: x3 :: x4 :: x5 :: x6 :: x7 :: x8 :: x9 :: x10 :: y :: t)) (i := 11) hy rfl]; rfl) A
theorem a_aNstore_11 {x0 x1 x2 x3 x4 x5 x6 x7 x8 x9 x10 : Value} {y : Value} {t : List Value} (hC : mvC k pc = (.astore 11, l, im, a, b, w)) (hn : pc + 2 = n) (hy : mvIsL x10 = false) (A : avA d k n (x0 :: x1 :: x2 :: x3 :: x4 :: x5 :: x6 :: x7 :: x8 :: x9 :: x10 :: .null :: t) st σ r) : avA d k pc (x0 :: x1 :: x2 :: x3 :: x4 :: x5 :: x6 :: x7 :: x8 :: x9 :: x10 :: y :: t) (.null :: st) σ r := by
  subst hn
  exact av_s hC (by show mvGo _ (mvSto (x0 :: x1 :: x2 :: x3 :: x4 :: x5 :: x6 :: x7 :: x8 :: x9 :: x10 :: y :: t) 11 (.null)) _ _ = _; rw [av_sto (L := (x0 :: x1 :: x2 :: x3 :: x4 :: x5 :: x6 :: x7 :: x8 :: x9 :: x10 :: y :: t)) (i := 11) hy rfl]; rfl) A
theorem a_lstore_11 {x0 x1 x2 x3 x4 x5 x6 x7 x8 x9 x10 : Value} {y z : Value} {x : Int64} {t : List Value} (hC : mvC k pc = (.lstore 11, l, im, a, b, w)) (hn : pc + 2 = n) (hy : mvIsL x10 = false) (A : avA d k n (x0 :: x1 :: x2 :: x3 :: x4 :: x5 :: x6 :: x7 :: x8 :: x9 :: x10 :: .long x :: mvU :: t) st σ r) : avA d k pc (x0 :: x1 :: x2 :: x3 :: x4 :: x5 :: x6 :: x7 :: x8 :: x9 :: x10 :: y :: z :: t) (.long x :: st) σ r := by
  subst hn
  exact av_s hC (by show mvGo _ ((mvSto (x0 :: x1 :: x2 :: x3 :: x4 :: x5 :: x6 :: x7 :: x8 :: x9 :: x10 :: y :: z :: t) 11 (.long x)).set (11 + 1) mvU) _ _ = _; rw [av_sto (L := (x0 :: x1 :: x2 :: x3 :: x4 :: x5 :: x6 :: x7 :: x8 :: x9 :: x10 :: y :: z :: t)) (i := 11) hy rfl]; rfl) A
theorem a_iinc_11 {x0 x1 x2 x3 x4 x5 x6 x7 x8 x9 x10 : Value} {x v : Int32} {t : List Value} {i : Int} (hC : mvC k pc = (.iinc 11 i, l, im, a, b, w)) (hn : pc + 3 = n) (hv : x + Int32.ofInt i = v) (hy : mvIsL x10 = false) (A : avA d k n (x0 :: x1 :: x2 :: x3 :: x4 :: x5 :: x6 :: x7 :: x8 :: x9 :: x10 :: .int v :: t) st σ r) : avA d k pc (x0 :: x1 :: x2 :: x3 :: x4 :: x5 :: x6 :: x7 :: x8 :: x9 :: x10 :: .int x :: t) st σ r := by
  subst hn hv
  exact av_s hC (by show mvGo _ (mvSto (x0 :: x1 :: x2 :: x3 :: x4 :: x5 :: x6 :: x7 :: x8 :: x9 :: x10 :: .int x :: t) 11 (.int (x + Int32.ofInt i))) _ _ = _; rw [av_sto (L := (x0 :: x1 :: x2 :: x3 :: x4 :: x5 :: x6 :: x7 :: x8 :: x9 :: x10 :: .int x :: t)) (i := 11) hy rfl]; rfl) A
theorem a_iload_12 {x0 x1 x2 x3 x4 x5 x6 x7 x8 x9 x10 x11 : Value} {x : Int32} {t : List Value} (hC : mvC k pc = (.iload 12, l, im, a, b, w)) (hn : pc + 2 = n) (A : avA d k n (x0 :: x1 :: x2 :: x3 :: x4 :: x5 :: x6 :: x7 :: x8 :: x9 :: x10 :: x11 :: .int x :: t) (.int x :: st) σ r) : avA d k pc (x0 :: x1 :: x2 :: x3 :: x4 :: x5 :: x6 :: x7 :: x8 :: x9 :: x10 :: x11 :: .int x :: t) st σ r := by
  subst hn
  exact av_s hC rfl A
theorem a_lload_12 {x0 x1 x2 x3 x4 x5 x6 x7 x8 x9 x10 x11 : Value} {x : Int64} {t : List Value} (hC : mvC k pc = (.lload 12, l, im, a, b, w)) (hn : pc + 2 = n) (A : avA d k n (x0 :: x1 :: x2 :: x3 :: x4 :: x5 :: x6 :: x7 :: x8 :: x9 :: x10 :: x11 :: .long x :: t) (.long x :: st) σ r) : avA d k pc (x0 :: x1 :: x2 :: x3 :: x4 :: x5 :: x6 :: x7 :: x8 :: x9 :: x10 :: x11 :: .long x :: t) st σ r := by
  subst hn
  exact av_s hC rfl A
theorem a_aload_12 {x0 x1 x2 x3 x4 x5 x6 x7 x8 x9 x10 x11 : Value} {x : Nat} {t : List Value} (hC : mvC k pc = (.aload 12, l, im, a, b, w)) (hn : pc + 2 = n) (A : avA d k n (x0 :: x1 :: x2 :: x3 :: x4 :: x5 :: x6 :: x7 :: x8 :: x9 :: x10 :: x11 :: .ref x :: t) (.ref x :: st) σ r) : avA d k pc (x0 :: x1 :: x2 :: x3 :: x4 :: x5 :: x6 :: x7 :: x8 :: x9 :: x10 :: x11 :: .ref x :: t) st σ r := by
  subst hn
  exact av_s hC rfl A
theorem a_aloadN_12 {x0 x1 x2 x3 x4 x5 x6 x7 x8 x9 x10 x11 : Value} {t : List Value} (hC : mvC k pc = (.aload 12, l, im, a, b, w)) (hn : pc + 2 = n) (A : avA d k n (x0 :: x1 :: x2 :: x3 :: x4 :: x5 :: x6 :: x7 :: x8 :: x9 :: x10 :: x11 :: .null :: t) (.null :: st) σ r) : avA d k pc (x0 :: x1 :: x2 :: x3 :: x4 :: x5 :: x6 :: x7 :: x8 :: x9 :: x10 :: x11 :: .null :: t) st σ r := by
  subst hn
  exact av_s hC rfl A
theorem a_aloadV_12 {x0 x1 x2 x3 x4 x5 x6 x7 x8 x9 x10 x11 : Value} {x : Option Nat} {t : List Value} (hC : mvC k pc = (.aload 12, l, im, a, b, w)) (hn : pc + 2 = n) (A : avA d k n (x0 :: x1 :: x2 :: x3 :: x4 :: x5 :: x6 :: x7 :: x8 :: x9 :: x10 :: x11 :: mvRv x :: t) (mvRv x :: st) σ r) : avA d k pc (x0 :: x1 :: x2 :: x3 :: x4 :: x5 :: x6 :: x7 :: x8 :: x9 :: x10 :: x11 :: mvRv x :: t) st σ r := by
  subst hn
  cases x <;> exact av_s hC rfl A
theorem a_istore_12 {x0 x1 x2 x3 x4 x5 x6 x7 x8 x9 x10 x11 : Value} {y : Value} {x : Int32} {t : List Value} (hC : mvC k pc = (.istore 12, l, im, a, b, w)) (hn : pc + 2 = n) (hy : mvIsL x11 = false) (A : avA d k n (x0 :: x1 :: x2 :: x3 :: x4 :: x5 :: x6 :: x7 :: x8 :: x9 :: x10 :: x11 :: .int x :: t) st σ r) : avA d k pc (x0 :: x1 :: x2 :: x3 :: x4 :: x5 :: x6 :: x7 :: x8 :: x9 :: x10 :: x11 :: y :: t) (.int x :: st) σ r := by
  subst hn
  exact av_s hC (by show mvGo _ (mvSto (x0 :: x1 :: x2 :: x3 :: x4 :: x5 :: x6 :: x7 :: x8 :: x9 :: x10 :: x11 :: y :: t) 12 (.int x)) _ _ = _; rw [av_sto (L := (x0 :: x1 :: x2 :: x3 :: x4 :: x5 :: x6 :: x7 :: x8 :: x9 :: x10 :: x11 :: y :: t)) (i := 12) hy rfl]; rfl) A
theorem a_astore_12 {x0 x1 x2 x3 x4 x5 x6 x7 x8 x9 x10 x11 : Value} {y : Value} {x : Nat} {t : List Value} (hC : mvC k pc = (.astore 12, l, im, a, b, w)) (hn : pc + 2 = n) (hy : mvIsL x11 = false) (A : avA d k n (x0 :: x1 :: x2 :: x3 :: x4 :: x5 :: x6 :: x7 :: x8 :: x9 :: x10 :: x11 :: .ref x :: t) st σ r) : avA d k pc (x0 :: x1 :: x2 :: x3 :: x4 :: x5 :: x6 :: x7 :: x8 :: x9 :: x10 :: x11 :: y :: t) (.ref x :: st) σ r := by
  subst hn
  exact av_s hC (by show mvGo _ (mvSto (x0 :: x1 :: x2 :: x3 :: x4 :: x5 :: x6 :: x7 :: x8 :: x9 :: x10 :: x11 :: y :: t) 12 (.ref x)) _ _ = _; rw [av_sto (L := (x0 :: x1 :: x2 :: x3 :: x4 :: x5 :: x6 :: x7 :: x8 :: x9 :: x10 :: x11 :: y :: t)) (i := 12) hy rfl]; rfl) A
theorem a_aNstore_12 {x0 x1 x2 x3 x4 x5 x6 x7 x8 x9 x10 x11 : Value} {y : Value} {t : List Value} (hC : mvC k pc = (.astore 12, l, im, a, b, w)) (hn : pc + 2 = n) (hy : mvIsL x11 = false) (A : avA d k n (x0 :: x1 :: x2 :: x3 :: x4 :: x5 :: x6 :: x7 :: x8 :: x9 :: x10 :: x11 :: .null :: t) st σ r) : avA d k pc (x0 :: x1 :: x2 :: x3 :: x4 :: x5 :: x6 :: x7 :: x8 :: x9 :: x10 :: x11 :: y :: t) (.null :: st) σ r := by
  subst hn
  exact av_s hC (by show mvGo _ (mvSto (x0 :: x1 :: x2 :: x3 :: x4 :: x5 :: x6 :: x7 :: x8 :: x9 :: x10 :: x11 :: y :: t) 12 (.null)) _ _ = _; rw [av_sto (L := (x0 :: x1 :: x2 :: x3 :: x4 :: x5 :: x6 :: x7 :: x8 :: x9 :: x10 :: x11 :: y :: t)) (i := 12) hy rfl]; rfl) A
theorem a_lstore_12 {x0 x1 x2 x3 x4 x5 x6 x7 x8 x9 x10 x11 : Value} {y z : Value} {x : Int64} {t : List Value} (hC : mvC k pc = (.lstore 12, l, im, a, b, w)) (hn : pc + 2 = n) (hy : mvIsL x11 = false) (A : avA d k n (x0 :: x1 :: x2 :: x3 :: x4 :: x5 :: x6 :: x7 :: x8 :: x9 :: x10 :: x11 :: .long x :: mvU :: t) st σ r) : avA d k pc (x0 :: x1 :: x2 :: x3 :: x4 :: x5 :: x6 :: x7 :: x8 :: x9 :: x10 :: x11 :: y :: z :: t) (.long x :: st) σ r := by
  subst hn
  exact av_s hC (by show mvGo _ ((mvSto (x0 :: x1 :: x2 :: x3 :: x4 :: x5 :: x6 :: x7 :: x8 :: x9 :: x10 :: x11 :: y :: z :: t) 12 (.long x)).set (12 + 1) mvU) _ _ = _; rw [av_sto (L := (x0 :: x1 :: x2 :: x3 :: x4 :: x5 :: x6 :: x7 :: x8 :: x9 :: x10 :: x11 :: y :: z :: t)) (i := 12) hy rfl]; rfl) A
theorem a_iinc_12 {x0 x1 x2 x3 x4 x5 x6 x7 x8 x9 x10 x11 : Value} {x v : Int32} {t : List Value} {i : Int} (hC : mvC k pc = (.iinc 12 i, l, im, a, b, w)) (hn : pc + 3 = n) (hv : x + Int32.ofInt i = v) (hy : mvIsL x11 = false) (A : avA d k n (x0 :: x1 :: x2 :: x3 :: x4 :: x5 :: x6 :: x7 :: x8 :: x9 :: x10 :: x11 :: .int v :: t) st σ r) : avA d k pc (x0 :: x1 :: x2 :: x3 :: x4 :: x5 :: x6 :: x7 :: x8 :: x9 :: x10 :: x11 :: .int x :: t) st σ r := by
  subst hn hv
  exact av_s hC (by show mvGo _ (mvSto (x0 :: x1 :: x2 :: x3 :: x4 :: x5 :: x6 :: x7 :: x8 :: x9 :: x10 :: x11 :: .int x :: t) 12 (.int (x + Int32.ofInt i))) _ _ = _; rw [av_sto (L := (x0 :: x1 :: x2 :: x3 :: x4 :: x5 :: x6 :: x7 :: x8 :: x9 :: x10 :: x11 :: .int x :: t)) (i := 12) hy rfl]; rfl) A
theorem a_iload_13 {x0 x1 x2 x3 x4 x5 x6 x7 x8 x9 x10 x11 x12 : Value} {x : Int32} {t : List Value} (hC : mvC k pc = (.iload 13, l, im, a, b, w)) (hn : pc + 2 = n) (A : avA d k n (x0 :: x1 :: x2 :: x3 :: x4 :: x5 :: x6 :: x7 :: x8 :: x9 :: x10 :: x11 :: x12 :: .int x :: t) (.int x :: st) σ r) : avA d k pc (x0 :: x1 :: x2 :: x3 :: x4 :: x5 :: x6 :: x7 :: x8 :: x9 :: x10 :: x11 :: x12 :: .int x :: t) st σ r := by
  subst hn
  exact av_s hC rfl A
theorem a_lload_13 {x0 x1 x2 x3 x4 x5 x6 x7 x8 x9 x10 x11 x12 : Value} {x : Int64} {t : List Value} (hC : mvC k pc = (.lload 13, l, im, a, b, w)) (hn : pc + 2 = n) (A : avA d k n (x0 :: x1 :: x2 :: x3 :: x4 :: x5 :: x6 :: x7 :: x8 :: x9 :: x10 :: x11 :: x12 :: .long x :: t) (.long x :: st) σ r) : avA d k pc (x0 :: x1 :: x2 :: x3 :: x4 :: x5 :: x6 :: x7 :: x8 :: x9 :: x10 :: x11 :: x12 :: .long x :: t) st σ r := by
  subst hn
  exact av_s hC rfl A
theorem a_aload_13 {x0 x1 x2 x3 x4 x5 x6 x7 x8 x9 x10 x11 x12 : Value} {x : Nat} {t : List Value} (hC : mvC k pc = (.aload 13, l, im, a, b, w)) (hn : pc + 2 = n) (A : avA d k n (x0 :: x1 :: x2 :: x3 :: x4 :: x5 :: x6 :: x7 :: x8 :: x9 :: x10 :: x11 :: x12 :: .ref x :: t) (.ref x :: st) σ r) : avA d k pc (x0 :: x1 :: x2 :: x3 :: x4 :: x5 :: x6 :: x7 :: x8 :: x9 :: x10 :: x11 :: x12 :: .ref x :: t) st σ r := by
  subst hn
  exact av_s hC rfl A
theorem a_aloadN_13 {x0 x1 x2 x3 x4 x5 x6 x7 x8 x9 x10 x11 x12 : Value} {t : List Value} (hC : mvC k pc = (.aload 13, l, im, a, b, w)) (hn : pc + 2 = n) (A : avA d k n (x0 :: x1 :: x2 :: x3 :: x4 :: x5 :: x6 :: x7 :: x8 :: x9 :: x10 :: x11 :: x12 :: .null :: t) (.null :: st) σ r) : avA d k pc (x0 :: x1 :: x2 :: x3 :: x4 :: x5 :: x6 :: x7 :: x8 :: x9 :: x10 :: x11 :: x12 :: .null :: t) st σ r := by
  subst hn
  exact av_s hC rfl A
theorem a_aloadV_13 {x0 x1 x2 x3 x4 x5 x6 x7 x8 x9 x10 x11 x12 : Value} {x : Option Nat} {t : List Value} (hC : mvC k pc = (.aload 13, l, im, a, b, w)) (hn : pc + 2 = n) (A : avA d k n (x0 :: x1 :: x2 :: x3 :: x4 :: x5 :: x6 :: x7 :: x8 :: x9 :: x10 :: x11 :: x12 :: mvRv x :: t) (mvRv x :: st) σ r) : avA d k pc (x0 :: x1 :: x2 :: x3 :: x4 :: x5 :: x6 :: x7 :: x8 :: x9 :: x10 :: x11 :: x12 :: mvRv x :: t) st σ r := by
  subst hn
  cases x <;> exact av_s hC rfl A
theorem a_istore_13 {x0 x1 x2 x3 x4 x5 x6 x7 x8 x9 x10 x11 x12 : Value} {y : Value} {x : Int32} {t : List Value} (hC : mvC k pc = (.istore 13, l, im, a, b, w)) (hn : pc + 2 = n) (hy : mvIsL x12 = false) (A : avA d k n (x0 :: x1 :: x2 :: x3 :: x4 :: x5 :: x6 :: x7 :: x8 :: x9 :: x10 :: x11 :: x12 :: .int x :: t) st σ r) : avA d k pc (x0 :: x1 :: x2 :: x3 :: x4 :: x5 :: x6 :: x7 :: x8 :: x9 :: x10 :: x11 :: x12 :: y :: t) (.int x :: st) σ r := by
  subst hn
  exact av_s hC (by show mvGo _ (mvSto (x0 :: x1 :: x2 :: x3 :: x4 :: x5 :: x6 :: x7 :: x8 :: x9 :: x10 :: x11 :: x12 :: y :: t) 13 (.int x)) _ _ = _; rw [av_sto (L := (x0 :: x1 :: x2 :: x3 :: x4 :: x5 :: x6 :: x7 :: x8 :: x9 :: x10 :: x11 :: x12 :: y :: t)) (i := 13) hy rfl]; rfl) A
theorem a_astore_13 {x0 x1 x2 x3 x4 x5 x6 x7 x8 x9 x10 x11 x12 : Value} {y : Value} {x : Nat} {t : List Value} (hC : mvC k pc = (.astore 13, l, im, a, b, w)) (hn : pc + 2 = n) (hy : mvIsL x12 = false) (A : avA d k n (x0 :: x1 :: x2 :: x3 :: x4 :: x5 :: x6 :: x7 :: x8 :: x9 :: x10 :: x11 :: x12 :: .ref x :: t) st σ r) : avA d k pc (x0 :: x1 :: x2 :: x3 :: x4 :: x5 :: x6 :: x7 :: x8 :: x9 :: x10 :: x11 :: x12 :: y :: t) (.ref x :: st) σ r := by
  subst hn
  exact av_s hC (by show mvGo _ (mvSto (x0 :: x1 :: x2 :: x3 :: x4 :: x5 :: x6 :: x7 :: x8 :: x9 :: x10 :: x11 :: x12 :: y :: t) 13 (.ref x)) _ _ = _; rw [av_sto (L := (x0 :: x1 :: x2 :: x3 :: x4 :: x5 :: x6 :: x7 :: x8 :: x9 :: x10 :: x11 :: x12 :: y :: t)) (i := 13) hy rfl]; rfl) A
theorem a_aNstore_13 {x0 x1 x2 x3 x4 x5 x6 x7 x8 x9 x10 x11 x12 : Value} {y : Value} {t : List Value} (hC : mvC k pc = (.astore 13, l, im, a, b, w)) (hn : pc + 2 = n) (hy : mvIsL x12 = false) (A : avA d k n (x0 :: x1 :: x2 :: x3 :: x4 :: x5 :: x6 :: x7 :: x8 :: x9 :: x10 :: x11 :: x12 :: .null :: t) st σ r) : avA d k pc (x0 :: x1 :: x2 :: x3 :: x4 :: x5 :: x6 :: x7 :: x8 :: x9 :: x10 :: x11 :: x12 :: y :: t) (.null :: st) σ r := by
  subst hn
  exact av_s hC (by show mvGo _ (mvSto (x0 :: x1 :: x2 :: x3 :: x4 :: x5 :: x6 :: x7 :: x8 :: x9 :: x10 :: x11 :: x12 :: y :: t) 13 (.null)) _ _ = _; rw [av_sto (L := (x0 :: x1 :: x2 :: x3 :: x4 :: x5 :: x6 :: x7 :: x8 :: x9 :: x10 :: x11 :: x12 :: y :: t)) (i := 13) hy rfl]; rfl) A
theorem a_lstore_13 {x0 x1 x2 x3 x4 x5 x6 x7 x8 x9 x10 x11 x12 : Value} {y z : Value} {x : Int64} {t : List Value} (hC : mvC k pc = (.lstore 13, l, im, a, b, w)) (hn : pc + 2 = n) (hy : mvIsL x12 = false) (A : avA d k n (x0 :: x1 :: x2 :: x3 :: x4 :: x5 :: x6 :: x7 :: x8 :: x9 :: x10 :: x11 :: x12 :: .long x :: mvU :: t) st σ r) : avA d k pc (x0 :: x1 :: x2 :: x3 :: x4 :: x5 :: x6 :: x7 :: x8 :: x9 :: x10 :: x11 :: x12 :: y :: z :: t) (.long x :: st) σ r := by
  subst hn
  exact av_s hC (by show mvGo _ ((mvSto (x0 :: x1 :: x2 :: x3 :: x4 :: x5 :: x6 :: x7 :: x8 :: x9 :: x10 :: x11 :: x12 :: y :: z :: t) 13 (.long x)).set (13 + 1) mvU) _ _ = _; rw [av_sto (L := (x0 :: x1 :: x2 :: x3 :: x4 :: x5 :: x6 :: x7 :: x8 :: x9 :: x10 :: x11 :: x12 :: y :: z :: t)) (i := 13) hy rfl]; rfl) A
theorem a_iinc_13 {x0 x1 x2 x3 x4 x5 x6 x7 x8 x9 x10 x11 x12 : Value} {x v : Int32} {t : List Value} {i : Int} (hC : mvC k pc = (.iinc 13 i, l, im, a, b, w)) (hn : pc + 3 = n) (hv : x + Int32.ofInt i = v) (hy : mvIsL x12 = false) (A : avA d k n (x0 :: x1 :: x2 :: x3 :: x4 :: x5 :: x6 :: x7 :: x8 :: x9 :: x10 :: x11 :: x12 :: .int v :: t) st σ r) : avA d k pc (x0 :: x1 :: x2 :: x3 :: x4 :: x5 :: x6 :: x7 :: x8 :: x9 :: x10 :: x11 :: x12 :: .int x :: t) st σ r := by
  subst hn hv
  exact av_s hC (by show mvGo _ (mvSto (x0 :: x1 :: x2 :: x3 :: x4 :: x5 :: x6 :: x7 :: x8 :: x9 :: x10 :: x11 :: x12 :: .int x :: t) 13 (.int (x + Int32.ofInt i))) _ _ = _; rw [av_sto (L := (x0 :: x1 :: x2 :: x3 :: x4 :: x5 :: x6 :: x7 :: x8 :: x9 :: x10 :: x11 :: x12 :: .int x :: t)) (i := 13) hy rfl]; rfl) A
theorem a_iload_14 {x0 x1 x2 x3 x4 x5 x6 x7 x8 x9 x10 x11 x12 x13 : Value} {x : Int32} {t : List Value} (hC : mvC k pc = (.iload 14, l, im, a, b, w)) (hn : pc + 2 = n) (A : avA d k n (x0 :: x1 :: x2 :: x3 :: x4 :: x5 :: x6 :: x7 :: x8 :: x9 :: x10 :: x11 :: x12 :: x13 :: .int x :: t) (.int x :: st) σ r) : avA d k pc (x0 :: x1 :: x2 :: x3 :: x4 :: x5 :: x6 :: x7 :: x8 :: x9 :: x10 :: x11 :: x12 :: x13 :: .int x :: t) st σ r := by
  subst hn
  exact av_s hC rfl A
theorem a_lload_14 {x0 x1 x2 x3 x4 x5 x6 x7 x8 x9 x10 x11 x12 x13 : Value} {x : Int64} {t : List Value} (hC : mvC k pc = (.lload 14, l, im, a, b, w)) (hn : pc + 2 = n) (A : avA d k n (x0 :: x1 :: x2 :: x3 :: x4 :: x5 :: x6 :: x7 :: x8 :: x9 :: x10 :: x11 :: x12 :: x13 :: .long x :: t) (.long x :: st) σ r) : avA d k pc (x0 :: x1 :: x2 :: x3 :: x4 :: x5 :: x6 :: x7 :: x8 :: x9 :: x10 :: x11 :: x12 :: x13 :: .long x :: t) st σ r := by
  subst hn
  exact av_s hC rfl A
theorem a_aload_14 {x0 x1 x2 x3 x4 x5 x6 x7 x8 x9 x10 x11 x12 x13 : Value} {x : Nat} {t : List Value} (hC : mvC k pc = (.aload 14, l, im, a, b, w)) (hn : pc + 2 = n) (A : avA d k n (x0 :: x1 :: x2 :: x3 :: x4 :: x5 :: x6 :: x7 :: x8 :: x9 :: x10 :: x11 :: x12 :: x13 :: .ref x :: t) (.ref x :: st) σ r) : avA d k pc (x0 :: x1 :: x2 :: x3 :: x4 :: x5 :: x6 :: x7 :: x8 :: x9 :: x10 :: x11 :: x12 :: x13 :: .ref x :: t) st σ r := by
  subst hn
  exact av_s hC rfl A
theorem a_aloadN_14 {x0 x1 x2 x3 x4 x5 x6 x7 x8 x9 x10 x11 x12 x13 : Value} {t : List Value} (hC : mvC k pc = (.aload 14, l, im, a, b, w)) (hn : pc + 2 = n) (A : avA d k n (x0 :: x1 :: x2 :: x3 :: x4 :: x5 :: x6 :: x7 :: x8 :: x9 :: x10 :: x11 :: x12 :: x13 :: .null :: t) (.null :: st) σ r) : avA d k pc (x0 :: x1 :: x2 :: x3 :: x4 :: x5 :: x6 :: x7 :: x8 :: x9 :: x10 :: x11 :: x12 :: x13 :: .null :: t) st σ r := by
  subst hn
  exact av_s hC rfl A
theorem a_aloadV_14 {x0 x1 x2 x3 x4 x5 x6 x7 x8 x9 x10 x11 x12 x13 : Value} {x : Option Nat} {t : List Value} (hC : mvC k pc = (.aload 14, l, im, a, b, w)) (hn : pc + 2 = n) (A : avA d k n (x0 :: x1 :: x2 :: x3 :: x4 :: x5 :: x6 :: x7 :: x8 :: x9 :: x10 :: x11 :: x12 :: x13 :: mvRv x :: t) (mvRv x :: st) σ r) : avA d k pc (x0 :: x1 :: x2 :: x3 :: x4 :: x5 :: x6 :: x7 :: x8 :: x9 :: x10 :: x11 :: x12 :: x13 :: mvRv x :: t) st σ r := by
  subst hn
  cases x <;> exact av_s hC rfl A
theorem a_istore_14 {x0 x1 x2 x3 x4 x5 x6 x7 x8 x9 x10 x11 x12 x13 : Value} {y : Value} {x : Int32} {t : List Value} (hC : mvC k pc = (.istore 14, l, im, a, b, w)) (hn : pc + 2 = n) (hy : mvIsL x13 = false) (A : avA d k n (x0 :: x1 :: x2 :: x3 :: x4 :: x5 :: x6 :: x7 :: x8 :: x9 :: x10 :: x11 :: x12 :: x13 :: .int x :: t) st σ r) : avA d k pc (x0 :: x1 :: x2 :: x3 :: x4 :: x5 :: x6 :: x7 :: x8 :: x9 :: x10 :: x11 :: x12 :: x13 :: y :: t) (.int x :: st) σ r := by
  subst hn
  exact av_s hC (by show mvGo _ (mvSto (x0 :: x1 :: x2 :: x3 :: x4 :: x5 :: x6 :: x7 :: x8 :: x9 :: x10 :: x11 :: x12 :: x13 :: y :: t) 14 (.int x)) _ _ = _; rw [av_sto (L := (x0 :: x1 :: x2 :: x3 :: x4 :: x5 :: x6 :: x7 :: x8 :: x9 :: x10 :: x11 :: x12 :: x13 :: y :: t)) (i := 14) hy rfl]; rfl) A
theorem a_astore_14 {x0 x1 x2 x3 x4 x5 x6 x7 x8 x9 x10 x11 x12 x13 : Value} {y : Value} {x : Nat} {t : List Value} (hC : mvC k pc = (.astore 14, l, im, a, b, w)) (hn : pc + 2 = n) (hy : mvIsL x13 = false) (A : avA d k n (x0 :: x1 :: x2 :: x3 :: x4 :: x5 :: x6 :: x7 :: x8 :: x9 :: x10 :: x11 :: x12 :: x13 :: .ref x :: t) st σ r) : avA d k pc (x0 :: x1 :: x2 :: x3 :: x4 :: x5 :: x6 :: x7 :: x8 :: x9 :: x10 :: x11 :: x12 :: x13 :: y :: t) (.ref x :: st) σ r := by
  subst hn
  exact av_s hC (by show mvGo _ (mvSto (x0 :: x1 :: x2 :: x3 :: x4 :: x5 :: x6 :: x7 :: x8 :: x9 :: x10 :: x11 :: x12 :: x13 :: y :: t) 14 (.ref x)) _ _ = _; rw [av_sto (L := (x0 :: x1 :: x2 :: x3 :: x4 :: x5 :: x6 :: x7 :: x8 :: x9 :: x10 :: x11 :: x12 :: x13 :: y :: t)) (i := 14) hy rfl]; rfl) A
theorem a_aNstore_14 {x0 x1 x2 x3 x4 x5 x6 x7 x8 x9 x10 x11 x12 x13 : Value} {y : Value} {t : List Value} (hC : mvC k pc = (.astore 14, l, im, a, b, w)) (hn : pc + 2 = n) (hy : mvIsL x13 = false) (A : avA d k n (x0 :: x1 :: x2 :: x3 :: x4 :: x5 :: x6 :: x7 :: x8 :: x9 :: x10 :: x11 :: x12 :: x13 :: .null :: t) st σ r) : avA d k pc (x0 :: x1 :: x2 :: x3 :: x4 :: x5 :: x6 :: x7 :: x8 :: x9 :: x10 :: x11 :: x12 :: x13 :: y :: t) (.null :: st) σ r := by
  subst hn
  exact av_s hC (by show mvGo _ (mvSto (x0 :: x1 :: x2 :: x3 :: x4 :: x5 :: x6 :: x7 :: x8 :: x9 :: x10 :: x11 :: x12 :: x13 :: y :: t) 14 (.null)) _ _ = _; rw [av_sto (L := (x0 :: x1 :: x2 :: x3 :: x4 :: x5 :: x6 :: x7 :: x8 :: x9 :: x10 :: x11 :: x12 :: x13 :: y :: t)) (i := 14) hy rfl]; rfl) A
theorem a_lstore_14 {x0 x1 x2 x3 x4 x5 x6 x7 x8 x9 x10 x11 x12 x13 : Value} {y z : Value} {x : Int64} {t : List Value} (hC : mvC k pc = (.lstore 14, l, im, a, b, w)) (hn : pc + 2 = n) (hy : mvIsL x13 = false) (A : avA d k n (x0 :: x1 :: x2 :: x3 :: x4 :: x5 :: x6 :: x7 :: x8 :: x9 :: x10 :: x11 :: x12 :: x13 :: .long x :: mvU :: t) st σ r) : avA d k pc (x0 :: x1 :: x2 :: x3 :: x4 :: x5 :: x6 :: x7 :: x8 :: x9 :: x10 :: x11 :: x12 :: x13 :: y :: z :: t) (.long x :: st) σ r := by
  subst hn
  exact av_s hC (by show mvGo _ ((mvSto (x0 :: x1 :: x2 :: x3 :: x4 :: x5 :: x6 :: x7 :: x8 :: x9 :: x10 :: x11 :: x12 :: x13 :: y :: z :: t) 14 (.long x)).set (14 + 1) mvU) _ _ = _; rw [av_sto (L := (x0 :: x1 :: x2 :: x3 :: x4 :: x5 :: x6 :: x7 :: x8 :: x9 :: x10 :: x11 :: x12 :: x13 :: y :: z :: t)) (i := 14) hy rfl]; rfl) A
theorem a_iinc_14 {x0 x1 x2 x3 x4 x5 x6 x7 x8 x9 x10 x11 x12 x13 : Value} {x v : Int32} {t : List Value} {i : Int} (hC : mvC k pc = (.iinc 14 i, l, im, a, b, w)) (hn : pc + 3 = n) (hv : x + Int32.ofInt i = v) (hy : mvIsL x13 = false) (A : avA d k n (x0 :: x1 :: x2 :: x3 :: x4 :: x5 :: x6 :: x7 :: x8 :: x9 :: x10 :: x11 :: x12 :: x13 :: .int v :: t) st σ r) : avA d k pc (x0 :: x1 :: x2 :: x3 :: x4 :: x5 :: x6 :: x7 :: x8 :: x9 :: x10 :: x11 :: x12 :: x13 :: .int x :: t) st σ r := by
  subst hn hv
  exact av_s hC (by show mvGo _ (mvSto (x0 :: x1 :: x2 :: x3 :: x4 :: x5 :: x6 :: x7 :: x8 :: x9 :: x10 :: x11 :: x12 :: x13 :: .int x :: t) 14 (.int (x + Int32.ofInt i))) _ _ = _; rw [av_sto (L := (x0 :: x1 :: x2 :: x3 :: x4 :: x5 :: x6 :: x7 :: x8 :: x9 :: x10 :: x11 :: x12 :: x13 :: .int x :: t)) (i := 14) hy rfl]; rfl) A
theorem a_iload_15 {x0 x1 x2 x3 x4 x5 x6 x7 x8 x9 x10 x11 x12 x13 x14 : Value} {x : Int32} {t : List Value} (hC : mvC k pc = (.iload 15, l, im, a, b, w)) (hn : pc + 2 = n) (A : avA d k n (x0 :: x1 :: x2 :: x3 :: x4 :: x5 :: x6 :: x7 :: x8 :: x9 :: x10 :: x11 :: x12 :: x13 :: x14 :: .int x :: t) (.int x :: st) σ r) : avA d k pc (x0 :: x1 :: x2 :: x3 :: x4 :: x5 :: x6 :: x7 :: x8 :: x9 :: x10 :: x11 :: x12 :: x13 :: x14 :: .int x :: t) st σ r := by
  subst hn
  exact av_s hC rfl A
theorem a_lload_15 {x0 x1 x2 x3 x4 x5 x6 x7 x8 x9 x10 x11 x12 x13 x14 : Value} {x : Int64} {t : List Value} (hC : mvC k pc = (.lload 15, l, im, a, b, w)) (hn : pc + 2 = n) (A : avA d k n (x0 :: x1 :: x2 :: x3 :: x4 :: x5 :: x6 :: x7 :: x8 :: x9 :: x10 :: x11 :: x12 :: x13 :: x14 :: .long x :: t) (.long x :: st) σ r) : avA d k pc (x0 :: x1 :: x2 :: x3 :: x4 :: x5 :: x6 :: x7 :: x8 :: x9 :: x10 :: x11 :: x12 :: x13 :: x14 :: .long x :: t) st σ r := by
  subst hn
  exact av_s hC rfl A
theorem a_aload_15 {x0 x1 x2 x3 x4 x5 x6 x7 x8 x9 x10 x11 x12 x13 x14 : Value} {x : Nat} {t : List Value} (hC : mvC k pc = (.aload 15, l, im, a, b, w)) (hn : pc + 2 = n) (A : avA d k n (x0 :: x1 :: x2 :: x3 :: x4 :: x5 :: x6 :: x7 :: x8 :: x9 :: x10 :: x11 :: x12 :: x13 :: x14 :: .ref x :: t) (.ref x :: st) σ r) : avA d k pc (x0 :: x1 :: x2 :: x3 :: x4 :: x5 :: x6 :: x7 :: x8 :: x9 :: x10 :: x11 :: x12 :: x13 :: x14 :: .ref x :: t) st σ r := by
  subst hn
  exact av_s hC rfl A
theorem a_aloadN_15 {x0 x1 x2 x3 x4 x5 x6 x7 x8 x9 x10 x11 x12 x13 x14 : Value} {t : List Value} (hC : mvC k pc = (.aload 15, l, im, a, b, w)) (hn : pc + 2 = n) (A : avA d k n (x0 :: x1 :: x2 :: x3 :: x4 :: x5 :: x6 :: x7 :: x8 :: x9 :: x10 :: x11 :: x12 :: x13 :: x14 :: .null :: t) (.null :: st) σ r) : avA d k pc (x0 :: x1 :: x2 :: x3 :: x4 :: x5 :: x6 :: x7 :: x8 :: x9 :: x10 :: x11 :: x12 :: x13 :: x14 :: .null :: t) st σ r := by
  subst hn
  exact av_s hC rfl A
theorem a_aloadV_15 {x0 x1 x2 x3 x4 x5 x6 x7 x8 x9 x10 x11 x12 x13 x14 : Value} {x : Option Nat} {t : List Value} (hC : mvC k pc = (.aload 15, l, im, a, b, w)) (hn : pc + 2 = n) (A : avA d k n (x0 :: x1 :: x2 :: x3 :: x4 :: x5 :: x6 :: x7 :: x8 :: x9 :: x10 :: x11 :: x12 :: x13 :: x14 :: mvRv x :: t) (mvRv x :: st) σ r) : avA d k pc (x0 :: x1 :: x2 :: x3 :: x4 :: x5 :: x6 :: x7 :: x8 :: x9 :: x10 :: x11 :: x12 :: x13 :: x14 :: mvRv x :: t) st σ r := by
  subst hn
  cases x <;> exact av_s hC rfl A
theorem a_istore_15 {x0 x1 x2 x3 x4 x5 x6 x7 x8 x9 x10 x11 x12 x13 x14 : Value} {y : Value} {x : Int32} {t : List Value} (hC : mvC k pc = (.istore 15, l, im, a, b, w)) (hn : pc + 2 = n) (hy : mvIsL x14 = false) (A : avA d k n (x0 :: x1 :: x2 :: x3 :: x4 :: x5 :: x6 :: x7 :: x8 :: x9 :: x10 :: x11 :: x12 :: x13 :: x14 :: .int x :: t) st σ r) : avA d k pc (x0 :: x1 :: x2 :: x3 :: x4 :: x5 :: x6 :: x7 :: x8 :: x9 :: x10 :: x11 :: x12 :: x13 :: x14 :: y :: t) (.int x :: st) σ r := by
  subst hn
  exact av_s hC (by show mvGo _ (mvSto (x0 :: x1 :: x2 :: x3 :: x4 :: x5 :: x6 :: x7 :: x8 :: x9 :: x10 :: x11 :: x12 :: x13 :: x14 :: y :: t) 15 (.int x)) _ _ = _; rw [av_sto (L := (x0 :: x1 :: x2 :: x3 :: x4 :: x5 :: x6 :: x7 :: x8 :: x9 :: x10 :: x11 :: x12 :: x13 :: x14 :: y :: t)) (i := 15) hy rfl]; rfl) A
theorem a_astore_15 {x0 x1 x2 x3 x4 x5 x6 x7 x8 x9 x10 x11 x12 x13 x14 : Value} {y : Value} {x : Nat} {t : List Value} (hC : mvC k pc = (.astore 15, l, im, a, b, w)) (hn : pc + 2 = n) (hy : mvIsL x14 = false) (A : avA d k n (x0 :: x1 :: x2 :: x3 :: x4 :: x5 :: x6 :: x7 :: x8 :: x9 :: x10 :: x11 :: x12 :: x13 :: x14 :: .ref x :: t) st σ r) : avA d k pc (x0 :: x1 :: x2 :: x3 :: x4 :: x5 :: x6 :: x7 :: x8 :: x9 :: x10 :: x11 :: x12 :: x13 :: x14 :: y :: t) (.ref x :: st) σ r := by
  subst hn
  exact av_s hC (by show mvGo _ (mvSto (x0 :: x1 :: x2 :: x3 :: x4 :: x5 :: x6 :: x7 :: x8 :: x9 :: x10 :: x11 :: x12 :: x13 :: x14 :: y :: t) 15 (.ref x)) _ _ = _; rw [av_sto (L := (x0 :: x1 :: x2 :: x3 :: x4 :: x5 :: x6 :: x7 :: x8 :: x9 :: x10 :: x11 :: x12 :: x13 :: x14 :: y :: t)) (i := 15) hy rfl]; rfl) A
theorem a_aNstore_15 {x0 x1 x2 x3 x4 x5 x6 x7 x8 x9 x10 x11 x12 x13 x14 : Value} {y : Value} {t : List Value} (hC : mvC k pc = (.astore 15, l, im, a, b, w)) (hn : pc + 2 = n) (hy : mvIsL x14 = false) (A : avA d k n (x0 :: x1 :: x2 :: x3 :: x4 :: x5 :: x6 :: x7 :: x8 :: x9 :: x10 :: x11 :: x12 :: x13 :: x14 :: .null :: t) st σ r) : avA d k pc (x0 :: x1 :: x2 :: x3 :: x4 :: x5 :: x6 :: x7 :: x8 :: x9 :: x10 :: x11 :: x12 :: x13 :: x14 :: y :: t) (.null :: st) σ r := by
  subst hn
  exact av_s hC (by show mvGo _ (mvSto (x0 :: x1 :: x2 :: x3 :: x4 :: x5 :: x6 :: x7 :: x8 :: x9 :: x10 :: x11 :: x12 :: x13 :: x14 :: y :: t) 15 (.null)) _ _ = _; rw [av_sto (L := (x0 :: x1 :: x2 :: x3 :: x4 :: x5 :: x6 :: x7 :: x8 :: x9 :: x10 :: x11 :: x12 :: x13 :: x14 :: y :: t)) (i := 15) hy rfl]; rfl) A
theorem a_lstore_15 {x0 x1 x2 x3 x4 x5 x6 x7 x8 x9 x10 x11 x12 x13 x14 : Value} {y z : Value} {x : Int64} {t : List Value} (hC : mvC k pc = (.lstore 15, l, im, a, b, w)) (hn : pc + 2 = n) (hy : mvIsL x14 = false) (A : avA d k n (x0 :: x1 :: x2 :: x3 :: x4 :: x5 :: x6 :: x7 :: x8 :: x9 :: x10 :: x11 :: x12 :: x13 :: x14 :: .long x :: mvU :: t) st σ r) : avA d k pc (x0 :: x1 :: x2 :: x3 :: x4 :: x5 :: x6 :: x7 :: x8 :: x9 :: x10 :: x11 :: x12 :: x13 :: x14 :: y :: z :: t) (.long x :: st) σ r := by
  subst hn
  exact av_s hC (by show mvGo _ ((mvSto (x0 :: x1 :: x2 :: x3 :: x4 :: x5 :: x6 :: x7 :: x8 :: x9 :: x10 :: x11 :: x12 :: x13 :: x14 :: y :: z :: t) 15 (.long x)).set (15 + 1) mvU) _ _ = _; rw [av_sto (L := (x0 :: x1 :: x2 :: x3 :: x4 :: x5 :: x6 :: x7 :: x8 :: x9 :: x10 :: x11 :: x12 :: x13 :: x14 :: y :: z :: t)) (i := 15) hy rfl]; rfl) A
theorem a_iinc_15 {x0 x1 x2 x3 x4 x5 x6 x7 x8 x9 x10 x11 x12 x13 x14 : Value} {x v : Int32} {t : List Value} {i : Int} (hC : mvC k pc = (.iinc 15 i, l, im, a, b, w)) (hn : pc + 3 = n) (hv : x + Int32.ofInt i = v) (hy : mvIsL x14 = false) (A : avA d k n (x0 :: x1 :: x2 :: x3 :: x4 :: x5 :: x6 :: x7 :: x8 :: x9 :: x10 :: x11 :: x12 :: x13 :: x14 :: .int v :: t) st σ r) : avA d k pc (x0 :: x1 :: x2 :: x3 :: x4 :: x5 :: x6 :: x7 :: x8 :: x9 :: x10 :: x11 :: x12 :: x13 :: x14 :: .int x :: t) st σ r := by
  subst hn hv
  exact av_s hC (by show mvGo _ (mvSto (x0 :: x1 :: x2 :: x3 :: x4 :: x5 :: x6 :: x7 :: x8 :: x9 :: x10 :: x11 :: x12 :: x13 :: x14 :: .int x :: t) 15 (.int (x + Int32.ofInt i))) _ _ = _; rw [av_sto (L := (x0 :: x1 :: x2 :: x3 :: x4 :: x5 :: x6 :: x7 :: x8 :: x9 :: x10 :: x11 :: x12 :: x13 :: x14 :: .int x :: t)) (i := 15) hy rfl]; rfl) A
theorem a_iadd {x y : Int32} (hC : mvC k pc = (.iadd, l, im, a, b, w)) (hn : pc + 1 = n) (A : avA d k n L (.int (x + y) :: st) σ r) : avA d k pc L (.int y :: .int x :: st) σ r := by
  subst hn
  exact av_s hC rfl A
theorem a_isub {x y : Int32} (hC : mvC k pc = (.isub, l, im, a, b, w)) (hn : pc + 1 = n) (A : avA d k n L (.int (x - y) :: st) σ r) : avA d k pc L (.int y :: .int x :: st) σ r := by
  subst hn
  exact av_s hC rfl A
theorem a_imul {x y : Int32} (hC : mvC k pc = (.imul, l, im, a, b, w)) (hn : pc + 1 = n) (A : avA d k n L (.int (x * y) :: st) σ r) : avA d k pc L (.int y :: .int x :: st) σ r := by
  subst hn
  exact av_s hC rfl A
theorem a_iand {x y : Int32} (hC : mvC k pc = (.iand, l, im, a, b, w)) (hn : pc + 1 = n) (A : avA d k n L (.int (x &&& y) :: st) σ r) : avA d k pc L (.int y :: .int x :: st) σ r := by
  subst hn
  exact av_s hC rfl A
theorem a_ior {x y : Int32} (hC : mvC k pc = (.ior, l, im, a, b, w)) (hn : pc + 1 = n) (A : avA d k n L (.int (x ||| y) :: st) σ r) : avA d k pc L (.int y :: .int x :: st) σ r := by
  subst hn
  exact av_s hC rfl A
theorem a_ixor {x y : Int32} (hC : mvC k pc = (.ixor, l, im, a, b, w)) (hn : pc + 1 = n) (A : avA d k n L (.int (x ^^^ y) :: st) σ r) : avA d k pc L (.int y :: .int x :: st) σ r := by
  subst hn
  exact av_s hC rfl A
theorem a_ishl {x y : Int32} (hC : mvC k pc = (.ishl, l, im, a, b, w)) (hn : pc + 1 = n) (A : avA d k n L (.int (x <<< (y &&& 31)) :: st) σ r) : avA d k pc L (.int y :: .int x :: st) σ r := by
  subst hn
  exact av_s hC rfl A
theorem a_ishr {x y : Int32} (hC : mvC k pc = (.ishr, l, im, a, b, w)) (hn : pc + 1 = n) (A : avA d k n L (.int (x >>> (y &&& 31)) :: st) σ r) : avA d k pc L (.int y :: .int x :: st) σ r := by
  subst hn
  exact av_s hC rfl A
theorem a_iushr {x y : Int32} (hC : mvC k pc = (.iushr, l, im, a, b, w)) (hn : pc + 1 = n) (A : avA d k n L (.int ((x.toUInt32 >>> (y.toUInt32 &&& Int32.toUInt32 31)).toInt32) :: st) σ r) : avA d k pc L (.int y :: .int x :: st) σ r := by
  subst hn
  exact av_s hC rfl A
theorem a_idiv {x y : Int32} (hC : mvC k pc = (.idiv, l, im, a, b, w)) (hn : pc + 1 = n) (hy : ¬ y = 0) (A : avA d k n L (.int (x / y) :: st) σ r) : avA d k pc L (.int y :: .int x :: st) σ r := by
  subst hn
  exact av_s hC (by show (if y = 0 then none else _) = _; rw [if_neg hy]; rfl) A
theorem a_irem {x y : Int32} (hC : mvC k pc = (.irem, l, im, a, b, w)) (hn : pc + 1 = n) (hy : ¬ y = 0) (A : avA d k n L (.int (x - x / y * y) :: st) σ r) : avA d k pc L (.int y :: .int x :: st) σ r := by
  subst hn
  exact av_s hC (by show (if y = 0 then none else _) = _; rw [if_neg hy]; rfl) A
theorem a_ineg {x : Int32} (hC : mvC k pc = (.ineg, l, im, a, b, w)) (hn : pc + 1 = n) (A : avA d k n L (.int (-x) :: st) σ r) : avA d k pc L (.int x :: st) σ r := by
  subst hn
  exact av_s hC rfl A
theorem a_i2b {x : Int32} (hC : mvC k pc = (.i2b, l, im, a, b, w)) (hn : pc + 1 = n) (A : avA d k n L (.int x.toInt8.toInt32 :: st) σ r) : avA d k pc L (.int x :: st) σ r := by
  subst hn
  exact av_s hC rfl A
theorem a_i2c {x : Int32} (hC : mvC k pc = (.i2c, l, im, a, b, w)) (hn : pc + 1 = n) (A : avA d k n L (.int (x.toUInt32 % 65536).toInt32 :: st) σ r) : avA d k pc L (.int x :: st) σ r := by
  subst hn
  exact av_s hC rfl A
theorem a_i2l {x : Int32} (hC : mvC k pc = (.i2l, l, im, a, b, w)) (hn : pc + 1 = n) (A : avA d k n L (.long x.toInt64 :: st) σ r) : avA d k pc L (.int x :: st) σ r := by
  subst hn
  exact av_s hC rfl A
theorem a_l2i {x : Int64} (hC : mvC k pc = (.l2i, l, im, a, b, w)) (hn : pc + 1 = n) (A : avA d k n L (.int x.toInt32 :: st) σ r) : avA d k pc L (.long x :: st) σ r := by
  subst hn
  exact av_s hC rfl A
theorem a_ladd {x y : Int64} (hC : mvC k pc = (.ladd, l, im, a, b, w)) (hn : pc + 1 = n) (A : avA d k n L (.long (x + y) :: st) σ r) : avA d k pc L (.long y :: .long x :: st) σ r := by
  subst hn
  exact av_s hC rfl A
theorem a_lsub {x y : Int64} (hC : mvC k pc = (.lsub, l, im, a, b, w)) (hn : pc + 1 = n) (A : avA d k n L (.long (x - y) :: st) σ r) : avA d k pc L (.long y :: .long x :: st) σ r := by
  subst hn
  exact av_s hC rfl A
theorem a_lmul {x y : Int64} (hC : mvC k pc = (.lmul, l, im, a, b, w)) (hn : pc + 1 = n) (A : avA d k n L (.long (x * y) :: st) σ r) : avA d k pc L (.long y :: .long x :: st) σ r := by
  subst hn
  exact av_s hC rfl A
theorem a_lor {x y : Int64} (hC : mvC k pc = (.lor, l, im, a, b, w)) (hn : pc + 1 = n) (A : avA d k n L (.long (x ||| y) :: st) σ r) : avA d k pc L (.long y :: .long x :: st) σ r := by
  subst hn
  exact av_s hC rfl A
theorem a_ldiv {x y : Int64} (hC : mvC k pc = (.ldiv, l, im, a, b, w)) (hn : pc + 1 = n) (hy : ¬ y = 0) (A : avA d k n L (.long (x / y) :: st) σ r) : avA d k pc L (.long y :: .long x :: st) σ r := by
  subst hn
  exact av_s hC (by show (if y = 0 then none else _) = _; rw [if_neg hy]; rfl) A
theorem a_lrem {x y : Int64} (hC : mvC k pc = (.lrem, l, im, a, b, w)) (hn : pc + 1 = n) (hy : ¬ y = 0) (A : avA d k n L (.long (x - x / y * y) :: st) σ r) : avA d k pc L (.long y :: .long x :: st) σ r := by
  subst hn
  exact av_s hC (by show (if y = 0 then none else _) = _; rw [if_neg hy]; rfl) A
theorem a_lshl {x : Int64} {y : Int32} (hC : mvC k pc = (.lshl, l, im, a, b, w)) (hn : pc + 1 = n) (A : avA d k n L (.long (x <<< (y.toInt64 &&& 63)) :: st) σ r) : avA d k pc L (.int y :: .long x :: st) σ r := by
  subst hn
  exact av_s hC rfl A
theorem a_lshr {x : Int64} {y : Int32} (hC : mvC k pc = (.lshr, l, im, a, b, w)) (hn : pc + 1 = n) (A : avA d k n L (.long (x >>> (y.toInt64 &&& 63)) :: st) σ r) : avA d k pc L (.int y :: .long x :: st) σ r := by
  subst hn
  exact av_s hC rfl A
theorem a_lneg {x : Int64} (hC : mvC k pc = (.lneg, l, im, a, b, w)) (hn : pc + 1 = n) (A : avA d k n L (.long (-x) :: st) σ r) : avA d k pc L (.long x :: st) σ r := by
  subst hn
  exact av_s hC rfl A
theorem a_lcmp {x y : Int64} (hC : mvC k pc = (.lcmp, l, im, a, b, w)) (hn : pc + 1 = n) (A : avA d k n L (.int (lg_cmp x y) :: st) σ r) : avA d k pc L (.long y :: .long x :: st) σ r := by
  subst hn
  exact av_s hC rfl A
theorem a_dup {v : Value} (hC : mvC k pc = (.dup, l, im, a, b, w)) (hn : pc + 1 = n) (hv : mvIsL v = false) (A : avA d k n L (v :: v :: st) σ r) : avA d k pc L (v :: st) σ r := by
  subst hn
  exact av_s hC (by show (bif mvIsL v then none else _) = _; rw [hv]; rfl) A
theorem a_dup2 {v u : Value} (hC : mvC k pc = (.dup2, l, im, a, b, w)) (hn : pc + 1 = n) (hv : (mvIsL v || mvIsL u) = false) (A : avA d k n L (v :: u :: v :: u :: st) σ r) : avA d k pc L (v :: u :: st) σ r := by
  subst hn
  exact av_s hC (by show (bif (mvIsL v || mvIsL u) then none else _) = _; rw [hv]; rfl) A
theorem a_pop {v : Value} (hC : mvC k pc = (.pop, l, im, a, b, w)) (hn : pc + 1 = n) (hv : mvIsL v = false) (A : avA d k n L st σ r) : avA d k pc L (v :: st) σ r := by
  subst hn
  exact av_s hC (by show (bif mvIsL v then none else _) = _; rw [hv]; rfl) A
theorem av_J {off : Int} {t : Nat} (ht : (pc : Int) + off = (t : Int)) : mvJ pc off L st σ = some (.inl (t, L, st, σ)) := by
  unfold mvJ
  rw [if_pos (by omega)]
  show some (Sum.inl (((pc : Int) + off).toNat, L, st, σ)) = _
  rw [show ((pc : Int) + off).toNat = t by omega]
theorem a_goto {off : Int} (hC : mvC k pc = (.goto off, l, im, a, b, w)) (hn : (pc : Int) + off = (n : Int)) (A : avA d k n L st σ r) : avA d k pc L st σ r := av_s hC (av_J hn) A
theorem a_if_eq {x : Int32} {off : Int} {t : Nat} (hC : mvC k pc = (.ifCond .eq off, l, im, a, b, w)) (ht : (pc : Int) + off = (t : Int)) (hn : pc + 3 = n) (T : x = 0 → avA d k t L st σ r) (F : ¬ x = 0 → avA d k n L st σ r) : avA d k pc L (.int x :: st) σ r := by
  subst hn
  by_cases hx : x = 0
  · exact av_s hC (by show (bif decide (x = 0) then mvJ pc off L st σ else mvGo (pc + 3) L st σ) = _; rw [decide_eq_true hx]; exact av_J ht) (T hx)
  · exact av_s hC (by show (bif decide (x = 0) then mvJ pc off L st σ else mvGo (pc + 3) L st σ) = _; rw [decide_eq_false hx]; rfl) (F hx)
theorem a_cmp_eq {x y : Int32} {off : Int} {t : Nat} (hC : mvC k pc = (.if_icmp .eq off, l, im, a, b, w)) (ht : (pc : Int) + off = (t : Int)) (hn : pc + 3 = n) (T : x = y → avA d k t L st σ r) (F : ¬ x = y → avA d k n L st σ r) : avA d k pc L (.int y :: .int x :: st) σ r := by
  subst hn
  by_cases hx : x = y
  · exact av_s hC (by show (bif decide (x = y) then mvJ pc off L st σ else mvGo (pc + 3) L st σ) = _; rw [decide_eq_true hx]; exact av_J ht) (T hx)
  · exact av_s hC (by show (bif decide (x = y) then mvJ pc off L st σ else mvGo (pc + 3) L st σ) = _; rw [decide_eq_false hx]; rfl) (F hx)
theorem a_if_ne {x : Int32} {off : Int} {t : Nat} (hC : mvC k pc = (.ifCond .ne off, l, im, a, b, w)) (ht : (pc : Int) + off = (t : Int)) (hn : pc + 3 = n) (T : ¬ x = 0 → avA d k t L st σ r) (F : x = 0 → avA d k n L st σ r) : avA d k pc L (.int x :: st) σ r := by
  subst hn
  by_cases hx : ¬ x = 0
  · exact av_s hC (by show (bif decide (¬ x = 0) then mvJ pc off L st σ else mvGo (pc + 3) L st σ) = _; rw [decide_eq_true hx]; exact av_J ht) (T hx)
  · exact av_s hC (by show (bif decide (¬ x = 0) then mvJ pc off L st σ else mvGo (pc + 3) L st σ) = _; rw [decide_eq_false hx]; rfl) (F (Classical.not_not.mp hx))
theorem a_cmp_ne {x y : Int32} {off : Int} {t : Nat} (hC : mvC k pc = (.if_icmp .ne off, l, im, a, b, w)) (ht : (pc : Int) + off = (t : Int)) (hn : pc + 3 = n) (T : ¬ x = y → avA d k t L st σ r) (F : x = y → avA d k n L st σ r) : avA d k pc L (.int y :: .int x :: st) σ r := by
  subst hn
  by_cases hx : ¬ x = y
  · exact av_s hC (by show (bif decide (¬ x = y) then mvJ pc off L st σ else mvGo (pc + 3) L st σ) = _; rw [decide_eq_true hx]; exact av_J ht) (T hx)
  · exact av_s hC (by show (bif decide (¬ x = y) then mvJ pc off L st σ else mvGo (pc + 3) L st σ) = _; rw [decide_eq_false hx]; rfl) (F (Classical.not_not.mp hx))
theorem a_if_lt {x : Int32} {off : Int} {t : Nat} (hC : mvC k pc = (.ifCond .lt off, l, im, a, b, w)) (ht : (pc : Int) + off = (t : Int)) (hn : pc + 3 = n) (T : x < 0 → avA d k t L st σ r) (F : ¬ x < 0 → avA d k n L st σ r) : avA d k pc L (.int x :: st) σ r := by
  subst hn
  by_cases hx : x < 0
  · exact av_s hC (by show (bif decide (x < 0) then mvJ pc off L st σ else mvGo (pc + 3) L st σ) = _; rw [decide_eq_true hx]; exact av_J ht) (T hx)
  · exact av_s hC (by show (bif decide (x < 0) then mvJ pc off L st σ else mvGo (pc + 3) L st σ) = _; rw [decide_eq_false hx]; rfl) (F hx)
theorem a_cmp_lt {x y : Int32} {off : Int} {t : Nat} (hC : mvC k pc = (.if_icmp .lt off, l, im, a, b, w)) (ht : (pc : Int) + off = (t : Int)) (hn : pc + 3 = n) (T : x < y → avA d k t L st σ r) (F : ¬ x < y → avA d k n L st σ r) : avA d k pc L (.int y :: .int x :: st) σ r := by
  subst hn
  by_cases hx : x < y
  · exact av_s hC (by show (bif decide (x < y) then mvJ pc off L st σ else mvGo (pc + 3) L st σ) = _; rw [decide_eq_true hx]; exact av_J ht) (T hx)
  · exact av_s hC (by show (bif decide (x < y) then mvJ pc off L st σ else mvGo (pc + 3) L st σ) = _; rw [decide_eq_false hx]; rfl) (F hx)
theorem a_if_ge {x : Int32} {off : Int} {t : Nat} (hC : mvC k pc = (.ifCond .ge off, l, im, a, b, w)) (ht : (pc : Int) + off = (t : Int)) (hn : pc + 3 = n) (T : 0 ≤ x → avA d k t L st σ r) (F : ¬ 0 ≤ x → avA d k n L st σ r) : avA d k pc L (.int x :: st) σ r := by
  subst hn
  by_cases hx : 0 ≤ x
  · exact av_s hC (by show (bif decide (0 ≤ x) then mvJ pc off L st σ else mvGo (pc + 3) L st σ) = _; rw [decide_eq_true hx]; exact av_J ht) (T hx)
  · exact av_s hC (by show (bif decide (0 ≤ x) then mvJ pc off L st σ else mvGo (pc + 3) L st σ) = _; rw [decide_eq_false hx]; rfl) (F hx)
theorem a_cmp_ge {x y : Int32} {off : Int} {t : Nat} (hC : mvC k pc = (.if_icmp .ge off, l, im, a, b, w)) (ht : (pc : Int) + off = (t : Int)) (hn : pc + 3 = n) (T : y ≤ x → avA d k t L st σ r) (F : ¬ y ≤ x → avA d k n L st σ r) : avA d k pc L (.int y :: .int x :: st) σ r := by
  subst hn
  by_cases hx : y ≤ x
  · exact av_s hC (by show (bif decide (y ≤ x) then mvJ pc off L st σ else mvGo (pc + 3) L st σ) = _; rw [decide_eq_true hx]; exact av_J ht) (T hx)
  · exact av_s hC (by show (bif decide (y ≤ x) then mvJ pc off L st σ else mvGo (pc + 3) L st σ) = _; rw [decide_eq_false hx]; rfl) (F hx)
theorem a_if_gt {x : Int32} {off : Int} {t : Nat} (hC : mvC k pc = (.ifCond .gt off, l, im, a, b, w)) (ht : (pc : Int) + off = (t : Int)) (hn : pc + 3 = n) (T : 0 < x → avA d k t L st σ r) (F : ¬ 0 < x → avA d k n L st σ r) : avA d k pc L (.int x :: st) σ r := by
  subst hn
  by_cases hx : 0 < x
  · exact av_s hC (by show (bif decide (0 < x) then mvJ pc off L st σ else mvGo (pc + 3) L st σ) = _; rw [decide_eq_true hx]; exact av_J ht) (T hx)
  · exact av_s hC (by show (bif decide (0 < x) then mvJ pc off L st σ else mvGo (pc + 3) L st σ) = _; rw [decide_eq_false hx]; rfl) (F hx)
theorem a_cmp_gt {x y : Int32} {off : Int} {t : Nat} (hC : mvC k pc = (.if_icmp .gt off, l, im, a, b, w)) (ht : (pc : Int) + off = (t : Int)) (hn : pc + 3 = n) (T : y < x → avA d k t L st σ r) (F : ¬ y < x → avA d k n L st σ r) : avA d k pc L (.int y :: .int x :: st) σ r := by
  subst hn
  by_cases hx : y < x
  · exact av_s hC (by show (bif decide (y < x) then mvJ pc off L st σ else mvGo (pc + 3) L st σ) = _; rw [decide_eq_true hx]; exact av_J ht) (T hx)
  · exact av_s hC (by show (bif decide (y < x) then mvJ pc off L st σ else mvGo (pc + 3) L st σ) = _; rw [decide_eq_false hx]; rfl) (F hx)
theorem a_if_le {x : Int32} {off : Int} {t : Nat} (hC : mvC k pc = (.ifCond .le off, l, im, a, b, w)) (ht : (pc : Int) + off = (t : Int)) (hn : pc + 3 = n) (T : x ≤ 0 → avA d k t L st σ r) (F : ¬ x ≤ 0 → avA d k n L st σ r) : avA d k pc L (.int x :: st) σ r := by
  subst hn
  by_cases hx : x ≤ 0
  · exact av_s hC (by show (bif decide (x ≤ 0) then mvJ pc off L st σ else mvGo (pc + 3) L st σ) = _; rw [decide_eq_true hx]; exact av_J ht) (T hx)
  · exact av_s hC (by show (bif decide (x ≤ 0) then mvJ pc off L st σ else mvGo (pc + 3) L st σ) = _; rw [decide_eq_false hx]; rfl) (F hx)
theorem a_cmp_le {x y : Int32} {off : Int} {t : Nat} (hC : mvC k pc = (.if_icmp .le off, l, im, a, b, w)) (ht : (pc : Int) + off = (t : Int)) (hn : pc + 3 = n) (T : x ≤ y → avA d k t L st σ r) (F : ¬ x ≤ y → avA d k n L st σ r) : avA d k pc L (.int y :: .int x :: st) σ r := by
  subst hn
  by_cases hx : x ≤ y
  · exact av_s hC (by show (bif decide (x ≤ y) then mvJ pc off L st σ else mvGo (pc + 3) L st σ) = _; rw [decide_eq_true hx]; exact av_J ht) (T hx)
  · exact av_s hC (by show (bif decide (x ≤ y) then mvJ pc off L st σ else mvGo (pc + 3) L st σ) = _; rw [decide_eq_false hx]; rfl) (F hx)
theorem a_ifnullN {off : Int} (hC : mvC k pc = (.ifnull off, l, im, a, b, w)) (hn : (pc : Int) + off = (n : Int)) (A : avA d k n L st σ r) : avA d k pc L (.null :: st) σ r := av_s hC (av_J hn) A
theorem a_ifnull {off : Int} {x : Nat} (hC : mvC k pc = (.ifnull off, l, im, a, b, w)) (hn : pc + 3 = n) (hx : Nat.beq x 6 = false) (A : avA d k n L st σ r) : avA d k pc L (.ref x :: st) σ r := by
  subst hn
  exact av_s hC (by show (bif Nat.beq x 6 then none else _) = _; rw [hx]; rfl) A
theorem a_ifnonnullN {off : Int} (hC : mvC k pc = (.ifnonnull off, l, im, a, b, w)) (hn : pc + 3 = n) (A : avA d k n L st σ r) : avA d k pc L (.null :: st) σ r := by
  subst hn
  exact av_s hC rfl A
theorem a_ifnonnull {off : Int} {x : Nat} (hC : mvC k pc = (.ifnonnull off, l, im, a, b, w)) (hn : (pc : Int) + off = (n : Int)) (hx : Nat.beq x 6 = false) (A : avA d k n L st σ r) : avA d k pc L (.ref x :: st) σ r :=
  av_s hC (by show (bif Nat.beq x 6 then none else mvJ pc off L st σ) = _; rw [hx]; exact av_J hn) A
/-- two references compared, each of ours or null -/
theorem a_acmp {off : Int} {x y : Option Nat} {t : Nat} (hC : mvC k pc = (.if_acmp .ne off, l, im, a, b, w)) (ht : (pc : Int) + off = (t : Int)) (hn : pc + 3 = n) (hx : ∀ z, x = some z → 7 ≤ z) (hy : ∀ z, y = some z → 7 ≤ z) (T : ¬ x = y → avA d k t L st σ r) (F : x = y → avA d k n L st σ r) : avA d k pc L (mvRv y :: mvRv x :: st) σ r := by
  subst hn
  cases x with
  | none =>
    cases y with
    | none => exact av_s hC rfl (F rfl)
    | some y =>
      refine av_s hC ?_ (T (fun z => by cases z))
      show (bif Nat.ble 7 y then mvJ pc off L st σ else none) = _
      rw [Nat.ble_eq_true_of_le (hy y rfl)]
      exact av_J ht
  | some x =>
    cases y with
    | none =>
      refine av_s hC ?_ (T (fun z => by cases z))
      show (bif Nat.ble 7 x then mvJ pc off L st σ else none) = _
      rw [Nat.ble_eq_true_of_le (hx x rfl)]
      exact av_J ht
    | some y =>
      by_cases hxy : x = y
      · refine av_s hC ?_ (F (by rw [hxy]))
        show (bif Nat.ble 7 x && Nat.ble 7 y then (bif Nat.beq x y then mvGo (pc + 3) L st σ else mvJ pc off L st σ) else none) = _
        rw [Nat.ble_eq_true_of_le (hx x rfl), Nat.ble_eq_true_of_le (hy y rfl), hxy, show Nat.beq y y = true from Nat.beq_refl y]
        rfl
      · refine av_s hC ?_ (T (fun z => hxy (Option.some.inj z)))
        show (bif Nat.ble 7 x && Nat.ble 7 y then (bif Nat.beq x y then mvGo (pc + 3) L st σ else mvJ pc off L st σ) else none) = _
        rw [Nat.ble_eq_true_of_le (hx x rfl), Nat.ble_eq_true_of_le (hy y rfl)]
        cases hq : Nat.beq x y with
        | true => exact absurd (Nat.eq_of_beq_eq_true hq) hxy
        | false => exact av_J ht
theorem a_tabOut {D lo hi : Int} {offs : Array Int} {x : Int32} (hC : mvC k pc = (.tableswitch D lo hi offs, l, im, a, b, w)) (hx : x.toInt < lo ∨ hi < x.toInt) (hn : (pc : Int) + D = (n : Int)) (A : avA d k n L st σ r) : avA d k pc L (.int x :: st) σ r :=
  av_s hC (by show (if x.toInt < lo ∨ hi < x.toInt then mvJ pc D L st σ else _) = _; rw [if_pos hx]; exact av_J hn) A
theorem a_tabIn {D lo hi off : Int} {offs : Array Int} {x : Int32} (hC : mvC k pc = (.tableswitch D lo hi offs, l, im, a, b, w)) (hx : ¬ (x.toInt < lo ∨ hi < x.toInt)) (ho : offs[(x.toInt - lo).toNat]? = some off) (hn : (pc : Int) + off = (n : Int)) (A : avA d k n L st σ r) : avA d k pc L (.int x :: st) σ r :=
  av_s hC (by show (if x.toInt < lo ∨ hi < x.toInt then mvJ pc D L st σ else (match offs[(x.toInt - lo).toNat]? with
      | some off => mvJ pc off L st σ
      | none => none)) = _; rw [if_neg hx, ho]; exact av_J hn) A
theorem a_look {D : Int} {ps : Array (Int × Int)} {x : Int32} (hC : mvC k pc = (.lookupswitch D ps, l, im, a, b, w)) (hn : (pc : Int) + Op.lookupswitch.offset ps.toList D x.toInt = (n : Int)) (A : avA d k n L st σ r) : avA d k pc L (.int x :: st) σ r := av_s hC (av_J hn) A
/-! the heap -/
theorem a_geti {i o c f : Nat} (hC : mvC k pc = (.getfield i, l, im, c, f, w)) (hn : pc + 3 = n) (ho : (me.2.2 o).1 = c) (hf : ∀ fi fl fr, mvFv c f fi fl fr = .int (fi f)) (A : avA d k n L (.int (h o f) :: st) (me, h, gl, gr) r) : avA d k pc L (.ref o :: st) (me, h, gl, gr) r := by
  subst hn ho
  exact av_s hC (by show (bif Nat.beq (me.2.2 o).1 (me.2.2 o).1 then mvGo (pc + 3) L (mvFv (me.2.2 o).1 f (h o) (gl o) (gr o) :: st) (me, h, gl, gr) else none) = _; rw [show Nat.beq (me.2.2 o).1 (me.2.2 o).1 = true from Nat.beq_refl _, hf]; rfl) A
theorem a_getl {i o c f : Nat} (hC : mvC k pc = (.getfield i, l, im, c, f, w)) (hn : pc + 3 = n) (ho : (me.2.2 o).1 = c) (hf : ∀ fi fl fr, mvFv c f fi fl fr = .long (fl f)) (A : avA d k n L (.long (gl o f) :: st) (me, h, gl, gr) r) : avA d k pc L (.ref o :: st) (me, h, gl, gr) r := by
  subst hn ho
  exact av_s hC (by show (bif Nat.beq (me.2.2 o).1 (me.2.2 o).1 then mvGo (pc + 3) L (mvFv (me.2.2 o).1 f (h o) (gl o) (gr o) :: st) (me, h, gl, gr) else none) = _; rw [show Nat.beq (me.2.2 o).1 (me.2.2 o).1 = true from Nat.beq_refl _, hf]; rfl) A
theorem a_getr {i o c f x : Nat} (hC : mvC k pc = (.getfield i, l, im, c, f, w)) (hn : pc + 3 = n) (ho : (me.2.2 o).1 = c) (hf : ∀ fi fl fr, mvFv c f fi fl fr = mvRv (fr f)) (hx : gr o f = some x) (A : avA d k n L (.ref x :: st) (me, h, gl, gr) r) : avA d k pc L (.ref o :: st) (me, h, gl, gr) r := by
  subst hn ho
  exact av_s hC (by show (bif Nat.beq (me.2.2 o).1 (me.2.2 o).1 then mvGo (pc + 3) L (mvFv (me.2.2 o).1 f (h o) (gl o) (gr o) :: st) (me, h, gl, gr) else none) = _; rw [show Nat.beq (me.2.2 o).1 (me.2.2 o).1 = true from Nat.beq_refl _, hf, hx]; rfl) A
theorem a_getv {i o c f : Nat} (hC : mvC k pc = (.getfield i, l, im, c, f, w)) (hn : pc + 3 = n) (ho : (me.2.2 o).1 = c) (hf : ∀ fi fl fr, mvFv c f fi fl fr = mvRv (fr f)) (A : avA d k n L (mvRv (gr o f) :: st) (me, h, gl, gr) r) : avA d k pc L (.ref o :: st) (me, h, gl, gr) r := by
  subst hn ho
  exact av_s hC (by show (bif Nat.beq (me.2.2 o).1 (me.2.2 o).1 then mvGo (pc + 3) L (mvFv (me.2.2 o).1 f (h o) (gl o) (gr o) :: st) (me, h, gl, gr) else none) = _; rw [show Nat.beq (me.2.2 o).1 (me.2.2 o).1 = true from Nat.beq_refl _, hf]; rfl) A
theorem a_puti {i o c f : Nat} {v : Int32} (hC : mvC k pc = (.putfield i, l, im, c, f, w)) (hn : pc + 3 = n) (ho : (me.2.2 o).1 = c) (hf : mvFk c f = 0) (A : avA d k n L st (me, mvPut h o f v, gl, gr) r) : avA d k pc L (.int v :: .ref o :: st) (me, h, gl, gr) r := by
  subst hn ho
  refine av_s hC ?_ A
  show mvPutf _ _ _ _ _ _ = _
  unfold mvPutf
  rw [hf]
  show (bif Nat.beq (me.2.2 o).1 (me.2.2 o).1 then _ else none) = _
  rw [show Nat.beq (me.2.2 o).1 (me.2.2 o).1 = true from Nat.beq_refl _]
  rfl
theorem a_putz {i o c f : Nat} {v : Int32} (hC : mvC k pc = (.putfield i, l, im, c, f, w)) (hn : pc + 3 = n) (ho : (me.2.2 o).1 = c) (hf : mvFk c f = 3) (hv : v = 0 ∨ v = 1) (A : avA d k n L st (me, mvPut h o f v, gl, gr) r) : avA d k pc L (.int v :: .ref o :: st) (me, h, gl, gr) r := by
  subst hn ho
  refine av_s hC ?_ A
  show mvPutf _ _ _ _ _ _ = _
  unfold mvPutf
  rw [hf]
  show (bif Nat.beq (me.2.2 o).1 (me.2.2 o).1 && (decide (v = 0) || decide (v = 1)) then _ else none) = _
  rw [show Nat.beq (me.2.2 o).1 (me.2.2 o).1 = true from Nat.beq_refl _, show (decide (v = 0) || decide (v = 1)) = true by rcases hv with rfl | rfl <;> rfl]
  rfl
theorem a_putl {i o c f : Nat} {v : Int64} (hC : mvC k pc = (.putfield i, l, im, c, f, w)) (hn : pc + 3 = n) (ho : (me.2.2 o).1 = c) (hf : mvFk c f = 1) (A : avA d k n L st (me, h, mvPut gl o f v, gr) r) : avA d k pc L (.long v :: .ref o :: st) (me, h, gl, gr) r := by
  subst hn ho
  refine av_s hC ?_ A
  show mvPutf _ _ _ _ _ _ = _
  unfold mvPutf
  rw [hf]
  show (bif Nat.beq (me.2.2 o).1 (me.2.2 o).1 then _ else none) = _
  rw [show Nat.beq (me.2.2 o).1 (me.2.2 o).1 = true from Nat.beq_refl _]
  rfl
theorem a_putr {i o c f : Nat} {v : Option Nat} (hC : mvC k pc = (.putfield i, l, im, c, f, w)) (hn : pc + 3 = n) (ho : (me.2.2 o).1 = c) (hf : mvFk c f = 2) (A : avA d k n L st (me, h, gl, mvPut gr o f v) r) : avA d k pc L (mvRv v :: .ref o :: st) (me, h, gl, gr) r := by
  subst hn ho
  refine av_s hC ?_ A
  show mvPutf _ _ _ _ _ _ = _
  unfold mvPutf
  rw [hf]
  cases v with
  | none =>
    show (bif Nat.beq (me.2.2 o).1 (me.2.2 o).1 then _ else none) = _
    rw [show Nat.beq (me.2.2 o).1 (me.2.2 o).1 = true from Nat.beq_refl _]
    rfl
  | some v =>
    show (bif Nat.beq (me.2.2 o).1 (me.2.2 o).1 then _ else none) = _
    rw [show Nat.beq (me.2.2 o).1 (me.2.2 o).1 = true from Nat.beq_refl _]
    rfl
theorem av_in {i : Int32} {z : Nat} (h : ¬ (i < 0 ∨ z ≤ i.toNatClampNeg)) : mvIn i z = true := by
  unfold mvIn
  have h1 : decide (i < 0) = false := decide_eq_false (fun q => h (Or.inl q))
  have h2 : Nat.ble z i.toNatClampNeg = false := by
    cases hq : Nat.ble z i.toNatClampNeg with
    | false => rfl
    | true => exact absurd (Nat.le_of_ble_eq_true hq) (fun q => h (Or.inr q))
  rw [h1, h2]
  rfl
/-- rows: the index is a number below the size -/
theorem av_nI {j z : Nat} (hj : j < z) (hz : z ≤ 65536) : mvIn (nI j) z = true ∧ (nI j).toNatClampNeg = j := by
  have h1 : (nI j).toNatClampNeg = j := nI_clamp (by omega)
  refine ⟨av_in ?_, h1⟩
  rw [h1]
  rintro (q | q)
  · exact nI_pos (by omega) q
  · omega
theorem a_iald {i : Int32} {o j z : Nat} (hC : mvC k pc = (.iaload, l, im, a, b, w)) (hn : pc + 1 = n) (ho : me.2.2 o = (20, z) ∨ me.2.2 o = (25, z)) (hi : i = nI j) (hj : j < z) (hz : z ≤ 65536) (A : avA d k n L (.int (h o j) :: st) (me, h, gl, gr) r) : avA d k pc L (.int i :: .ref o :: st) (me, h, gl, gr) r := by
  subst hn hi
  obtain ⟨e1, e2⟩ := av_nI hj hz
  refine av_s hC ?_ A
  show (bif (Nat.beq (me.2.2 o).1 20 || Nat.beq (me.2.2 o).1 25) && mvIn (nI j) (me.2.2 o).2 then mvGo (pc + 1) L (.int (h o (nI j).toNatClampNeg) :: st) (me, h, gl, gr) else none) = _
  rcases ho with ho | ho <;> rw [ho, e1, e2] <;> rfl
theorem a_bald {i : Int32} {o j z : Nat} (hC : mvC k pc = (.baload, l, im, a, b, w)) (hn : pc + 1 = n) (ho : me.2.2 o = (22, z) ∨ me.2.2 o = (24, z)) (hi : i = nI j) (hj : j < z) (hz : z ≤ 65536) (A : avA d k n L (.int (h o j) :: st) (me, h, gl, gr) r) : avA d k pc L (.int i :: .ref o :: st) (me, h, gl, gr) r := by
  subst hn hi
  obtain ⟨e1, e2⟩ := av_nI hj hz
  refine av_s hC ?_ A
  show (bif (Nat.beq (me.2.2 o).1 22 || Nat.beq (me.2.2 o).1 24) && mvIn (nI j) (me.2.2 o).2 then mvGo (pc + 1) L (.int (h o (nI j).toNatClampNeg) :: st) (me, h, gl, gr) else none) = _
  rcases ho with ho | ho <;> rw [ho, e1, e2] <;> rfl
theorem a_lald {i : Int32} {o j z : Nat} (hC : mvC k pc = (.laload, l, im, a, b, w)) (hn : pc + 1 = n) (ho : me.2.2 o = (21, z)) (hi : i = nI j) (hj : j < z) (hz : z ≤ 65536) (A : avA d k n L (.long (gl o j) :: st) (me, h, gl, gr) r) : avA d k pc L (.int i :: .ref o :: st) (me, h, gl, gr) r := by
  subst hn hi
  obtain ⟨e1, e2⟩ := av_nI hj hz
  refine av_s hC ?_ A
  show (bif Nat.beq (me.2.2 o).1 21 && mvIn (nI j) (me.2.2 o).2 then mvGo (pc + 1) L (.long (gl o (nI j).toNatClampNeg) :: st) (me, h, gl, gr) else none) = _
  rw [ho, e1, e2]
  rfl
theorem a_aald {i : Int32} {o j z : Nat} (hC : mvC k pc = (.aaload, l, im, a, b, w)) (hn : pc + 1 = n) (ho : me.2.2 o = (23, z)) (hi : i = nI j) (hj : j < z) (hz : z ≤ 65536) (A : avA d k n L (mvRv (gr o j) :: st) (me, h, gl, gr) r) : avA d k pc L (.int i :: .ref o :: st) (me, h, gl, gr) r := by
  subst hn hi
  obtain ⟨e1, e2⟩ := av_nI hj hz
  refine av_s hC ?_ A
  show (bif Nat.beq (me.2.2 o).1 23 && mvIn (nI j) (me.2.2 o).2 then mvGo (pc + 1) L (mvRv (gr o (nI j).toNatClampNeg) :: st) (me, h, gl, gr) else none) = _
  rw [ho, e1, e2]
  rfl
theorem a_iast {i v : Int32} {o j z : Nat} (hC : mvC k pc = (.iastore, l, im, a, b, w)) (hn : pc + 1 = n) (ho : me.2.2 o = (20, z)) (hi : i = nI j) (hj : j < z) (hz : z ≤ 65536) (A : avA d k n L st (me, mvPut h o j v, gl, gr) r) : avA d k pc L (.int v :: .int i :: .ref o :: st) (me, h, gl, gr) r := by
  subst hn hi
  obtain ⟨e1, e2⟩ := av_nI hj hz
  refine av_s hC ?_ A
  show (bif Nat.beq (me.2.2 o).1 20 && mvIn (nI j) (me.2.2 o).2 then mvGo (pc + 1) L st (me, mvPut h o (nI j).toNatClampNeg v, gl, gr) else none) = _
  rw [ho, e1, e2]
  rfl
theorem a_bast {i v : Int32} {o j z : Nat} (hC : mvC k pc = (.bastore, l, im, a, b, w)) (hn : pc + 1 = n) (ho : me.2.2 o = (22, z)) (hi : i = nI j) (hj : j < z) (hz : z ≤ 65536) (hv : v = 0 ∨ v = 1) (A : avA d k n L st (me, mvPut h o j v, gl, gr) r) : avA d k pc L (.int v :: .int i :: .ref o :: st) (me, h, gl, gr) r := by
  subst hn hi
  obtain ⟨e1, e2⟩ := av_nI hj hz
  refine av_s hC ?_ A
  show (bif Nat.beq (me.2.2 o).1 22 && mvIn (nI j) (me.2.2 o).2 && (decide (v = 0) || decide (v = 1)) then mvGo (pc + 1) L st (me, mvPut h o (nI j).toNatClampNeg v, gl, gr) else none) = _
  rw [ho, e1, e2, show (decide (v = 0) || decide (v = 1)) = true by rcases hv with rfl | rfl <;> rfl]
  rfl
theorem a_last {i : Int32} {v : Int64} {o j z : Nat} (hC : mvC k pc = (.lastore, l, im, a, b, w)) (hn : pc + 1 = n) (ho : me.2.2 o = (21, z)) (hi : i = nI j) (hj : j < z) (hz : z ≤ 65536) (A : avA d k n L st (me, h, mvPut gl o j v, gr) r) : avA d k pc L (.long v :: .int i :: .ref o :: st) (me, h, gl, gr) r := by
  subst hn hi
  obtain ⟨e1, e2⟩ := av_nI hj hz
  refine av_s hC ?_ A
  show (bif Nat.beq (me.2.2 o).1 21 && mvIn (nI j) (me.2.2 o).2 then mvGo (pc + 1) L st (me, h, mvPut gl o (nI j).toNatClampNeg v, gr) else none) = _
  rw [ho, e1, e2]
  rfl
theorem a_aast {i : Int32} {o v j z : Nat} (hC : mvC k pc = (.aastore, l, im, a, b, w)) (hn : pc + 1 = n) (ho : me.2.2 o = (23, z)) (hv : (me.2.2 v).1 = 10) (hi : i = nI j) (hj : j < z) (hz : z ≤ 65536) (A : avA d k n L st (me, h, gl, mvPut gr o j (some v)) r) : avA d k pc L (.ref v :: .int i :: .ref o :: st) (me, h, gl, gr) r := by
  subst hn hi
  obtain ⟨e1, e2⟩ := av_nI hj hz
  refine av_s hC ?_ A
  show (bif Nat.beq (me.2.2 o).1 23 && mvIn (nI j) (me.2.2 o).2 && Nat.beq (me.2.2 v).1 10 then mvGo (pc + 1) L st (me, h, gl, mvPut gr o (nI j).toNatClampNeg (some v)) else none) = _
  rw [ho, e1, e2, hv]
  rfl
theorem a_alen {o z t : Nat} (hC : mvC k pc = (.arraylength, l, im, a, b, w)) (hn : pc + 1 = n) (ho : me.2.2 o = (t, z)) (ht : (Nat.ble 20 t && Nat.ble t 25) = true) (A : avA d k n L (.int (nI z) :: st) (me, h, gl, gr) r) : avA d k pc L (.ref o :: st) (me, h, gl, gr) r := by
  subst hn
  refine av_s hC ?_ A
  show (bif Nat.ble 20 (me.2.2 o).1 && Nat.ble (me.2.2 o).1 25 then mvGo (pc + 1) L (.int (nI (me.2.2 o).2) :: st) (me, h, gl, gr) else none) = _
  rw [ho, ht]
  rfl
theorem av_newA {tag z : Nat} {i : Int32} (hi : i = nI z) (hz : z < 65536) : mvNewA n tag L (.int i :: st) (me, h, gl, gr) = some (.inl (n, L, .ref me.1 :: st, mvMake (me, h, gl, gr) tag z z)) := by
  subst hi
  have h1 : (nI z).toNatClampNeg = z := nI_clamp (by omega)
  show (bif decide (nI z < 0) || Nat.ble 65536 (nI z).toNatClampNeg then none else mvGo n L (.ref me.1 :: st) (mvMake (me, h, gl, gr) tag (nI z).toNatClampNeg (nI z).toNatClampNeg)) = _
  rw [h1, decide_eq_false (nI_pos (by omega))]
  have h2 : Nat.ble 65536 z = false := by
    cases hq : Nat.ble 65536 z with
    | false => rfl
    | true => exact absurd (Nat.le_of_ble_eq_true hq) (by omega)
  rw [h2]
  rfl
theorem a_newI {i : Int32} {z : Nat} (hC : mvC k pc = (.newarray .int, l, im, a, b, w)) (hn : pc + 2 = n) (hi : i = nI z) (hz : z < 65536) (A : avA d k n L (.ref me.1 :: st) (mvMake (me, h, gl, gr) 20 z z) r) : avA d k pc L (.int i :: st) (me, h, gl, gr) r := by
  subst hn
  exact av_s hC (av_newA hi hz) A
theorem a_newL {i : Int32} {z : Nat} (hC : mvC k pc = (.newarray .long, l, im, a, b, w)) (hn : pc + 2 = n) (hi : i = nI z) (hz : z < 65536) (A : avA d k n L (.ref me.1 :: st) (mvMake (me, h, gl, gr) 21 z z) r) : avA d k pc L (.int i :: st) (me, h, gl, gr) r := by
  subst hn
  exact av_s hC (av_newA hi hz) A
theorem a_newZ {i : Int32} {z : Nat} (hC : mvC k pc = (.newarray .boolean, l, im, a, b, w)) (hn : pc + 2 = n) (hi : i = nI z) (hz : z < 65536) (A : avA d k n L (.ref me.1 :: st) (mvMake (me, h, gl, gr) 22 z z) r) : avA d k pc L (.int i :: st) (me, h, gl, gr) r := by
  subst hn
  exact av_s hC (av_newA hi hz) A
theorem a_newA {j : Nat} {i : Int32} {z : Nat} (hC : mvC k pc = (.anewarray j, l, im, a, b, w)) (hn : pc + 3 = n) (hi : i = nI z) (hz : z < 65536) (A : avA d k n L (.ref me.1 :: st) (mvMake (me, h, gl, gr) 23 z z) r) : avA d k pc L (.int i :: st) (me, h, gl, gr) r := by
  subst hn
  exact av_s hC (av_newA hi hz) A
theorem a_new {i z : Nat} (hC : mvC k pc = (.new i, l, im, a, b, w)) (hn : pc + 3 = n) (hz : mvNf a = z) (A : avA d k n L (.ref σ.1.1 :: st) (mvMake σ a z z) r) : avA d k pc L st σ r := by
  subst hn hz
  exact av_s hC rfl A
theorem a_obj {i o : Nat} (hC : mvC k pc = (.invokespecial i, l, im, a, 3, w)) (hn : pc + 3 = n) (ho : 7 ≤ o) (hs : (st.map fun v => v.category).sum ≤ 8) (A : avA d k n L st σ r) : avA d k pc L (.ref o :: st) σ r := by
  subst hn
  refine av_s hC ?_ A
  show (bif Nat.ble 7 o && Nat.ble ((st.map fun v => v.category).sum) 8 then mvGo (pc + 3) L st σ else none) = _
  rw [Nat.ble_eq_true_of_le ho, Nat.ble_eq_true_of_le hs]
  rfl
theorem av_m2 {f : Int32 → Int32 → Int32} {x y : Int32} (hs : (st.map fun v => v.category).sum ≤ 8) : mvM2 f n L (.int y :: .int x :: st) σ = some (.inl (n, L, .int (f x y) :: st, σ)) := by
  show (bif Nat.ble ((st.map fun v => v.category).sum) 8 then mvGo n L (.int (f x y) :: st) σ else none) = _
  rw [Nat.ble_eq_true_of_le hs]
  rfl
theorem av_m2l {f : Int64 → Int64 → Int64} {x y : Int64} (hs : (st.map fun v => v.category).sum ≤ 8) : mvM2l f n L (.long y :: .long x :: st) σ = some (.inl (n, L, .long (f x y) :: st, σ)) := by
  show (bif Nat.ble ((st.map fun v => v.category).sum) 8 then mvGo n L (.long (f x y) :: st) σ else none) = _
  rw [Nat.ble_eq_true_of_le hs]
  rfl
theorem a_max {i : Nat} {x y : Int32} (hC : mvC k pc = (.invokestatic i, l, im, a, 4, w)) (hn : pc + 3 = n) (hs : (st.map fun v => v.category).sum ≤ 8) (A : avA d k n L (.int (if x < y then y else x) :: st) σ r) : avA d k pc L (.int y :: .int x :: st) σ r := by
  subst hn
  exact av_s hC (av_m2 hs) A
theorem a_min {i : Nat} {x y : Int32} (hC : mvC k pc = (.invokestatic i, l, im, a, 5, w)) (hn : pc + 3 = n) (hs : (st.map fun v => v.category).sum ≤ 8) (A : avA d k n L (.int (if y < x then y else x) :: st) σ r) : avA d k pc L (.int y :: .int x :: st) σ r := by
  subst hn
  exact av_s hC (av_m2 hs) A
theorem a_maxl {i : Nat} {x y : Int64} (hC : mvC k pc = (.invokestatic i, l, im, a, 6, w)) (hn : pc + 3 = n) (hs : (st.map fun v => v.category).sum ≤ 8) (A : avA d k n L (.long (if y < x then x else y) :: st) σ r) : avA d k pc L (.long y :: .long x :: st) σ r := by
  subst hn
  exact av_s hC (av_m2l hs) A
theorem a_minl {i : Nat} {x y : Int64} (hC : mvC k pc = (.invokestatic i, l, im, a, 7, w)) (hn : pc + 3 = n) (hs : (st.map fun v => v.category).sum ≤ 8) (A : avA d k n L (.long (if y < x then y else x) :: st) σ r) : avA d k pc L (.long y :: .long x :: st) σ r := by
  subst hn
  exact av_s hC (av_m2l hs) A
theorem a_copy {i o q u v z1 z2 : Nat} {sp dp m : Int32} {ts : Nat} (hC : mvC k pc = (.invokestatic i, l, im, a, 2, w)) (hn : pc + 3 = n) (ho : me.2.2 o = (20, z1)) (hq : me.2.2 q = (20, z2)) (hsp : sp = nI u) (hdp : dp = nI v) (hm : m = nI ts) (h1 : u + ts ≤ z1) (h2 : v + ts ≤ z2) (hz : z1 ≤ 65536 ∧ z2 ≤ 65536) (hs : (st.map fun v => v.category).sum ≤ 8)
    (A : avA d k n L st (me, va_up h q (va_cpy (h o) (h q) u v ts), gl, gr) r) : avA d k pc L (.int m :: .int dp :: .ref q :: .int sp :: .ref o :: st) (me, h, gl, gr) r := by
  subst hn hsp hdp hm
  refine av_s hC ?_ A
  show (bif Nat.beq (me.2.2 o).1 20 && Nat.beq (me.2.2 q).1 20 && !decide (nI u < 0) && !decide (nI v < 0) && !decide (nI ts < 0) && Nat.ble ((nI u).toNatClampNeg + (nI ts).toNatClampNeg) (me.2.2 o).2 && Nat.ble ((nI v).toNatClampNeg + (nI ts).toNatClampNeg) (me.2.2 q).2 && Nat.ble ((st.map fun v => v.category).sum) 8 then
      mvGo (pc + 3) L st (me, va_up h q (va_cpy (h o) (h q) (nI u).toNatClampNeg (nI v).toNatClampNeg (nI ts).toNatClampNeg), gl, gr) else none) = _
  rw [nI_clamp (by omega), nI_clamp (by omega), nI_clamp (by omega), decide_eq_false (nI_pos (n := u) (by omega)), decide_eq_false (nI_pos (n := v) (by omega)), decide_eq_false (nI_pos (n := ts) (by omega)), ho, hq, Nat.ble_eq_true_of_le h1, Nat.ble_eq_true_of_le h2, Nat.ble_eq_true_of_le hs]
  rfl
/-! answers -/
theorem a_iret {v : Int32} (hC : mvC k pc = (.ireturn, l, im, a, b, w)) (hr : (mvT k).2.2.2.1 = some .int) : avA d k pc L [.int v] σ (some (.int v), σ) := by
  refine av_r hC ?_
  show mvIret k [.int v] σ = _
  unfold mvIret
  rw [hr]
  rfl
theorem a_zret {v : Int32} (hC : mvC k pc = (.ireturn, l, im, a, b, w)) (hr : (mvT k).2.2.2.1 = some .boolean) (hv : v = 0 ∨ v = 1) : avA d k pc L [.int v] σ (some (.int v), σ) := by
  refine av_r hC ?_
  show mvIret k [.int v] σ = _
  unfold mvIret
  rw [hr]
  rcases hv with rfl | rfl <;> rfl
theorem a_bret {v : Int32} (hC : mvC k pc = (.ireturn, l, im, a, b, w)) (hr : (mvT k).2.2.2.1 = some .byte) (hv : v.toInt8.toInt32 = v) : avA d k pc L [.int v] σ (some (.int v), σ) := by
  refine av_r hC ?_
  show mvIret k [.int v] σ = _
  unfold mvIret
  rw [hr]
  exact if_pos hv
theorem a_cret {v : Int32} (hC : mvC k pc = (.ireturn, l, im, a, b, w)) (hr : (mvT k).2.2.2.1 = some .char) (hv : v.toUInt32.toUInt16.toUInt32.toInt32 = v) : avA d k pc L [.int v] σ (some (.int v), σ) := by
  refine av_r hC ?_
  show mvIret k [.int v] σ = _
  unfold mvIret
  rw [hr]
  exact if_pos hv
theorem a_lret {v : Int64} (hC : mvC k pc = (.lreturn, l, im, a, b, w)) (hr : (mvT k).2.2.2.1 = some .long) : avA d k pc L [.long v] σ (some (.long v), σ) := by
  refine av_r hC ?_
  show mvLret k [.long v] σ = _
  unfold mvLret
  rw [hr]
  rfl
theorem a_aret {v : Option Nat} {nm : String} (hC : mvC k pc = (.areturn, l, im, a, b, w)) (hr : (mvT k).2.2.2.1 = some (.object nm)) : avA d k pc L [mvRv v] σ (some (mvRv v), σ) := by
  refine av_r hC ?_
  show mvAret k [mvRv v] σ = _
  unfold mvAret
  rw [hr]
  cases v <;> rfl
theorem a_vret (hC : mvC k pc = (.return_, l, im, a, b, w)) (hr : (mvT k).2.2.2.1 = none) : avA d k pc L [] σ (none, σ) := by
  refine av_r hC ?_
  show mvVret k [] σ = _
  unfold mvVret
  rw [hr]
  rfl
/-! calls: of a static method with its arguments As (the last on top), of an object's -/
theorem av_callS {y ml na : Nat} {As rest : List Value} (hy : (mvT y).2.2.1 = ml ∧ (mvT y).2.2.2.2.1 = 0 ∧ (mvT y).2.2.2.2.2.1 = na) (h0 : Nat.blt 0 y = true) (hA : As.length = na) (hl : (mvLs ml As).length = ml) (hs : (rest.map fun v => v.category).sum ≤ 8) : mvCall y (As.reverse ++ rest) σ = some (.inr (.inr (y, As, rest))) := by
  unfold mvCall
  obtain ⟨h1, h2, h3⟩ := hy
  generalize mvT y = t at h1 h2 h3 ⊢
  obtain ⟨y0, bytes, ml', ret, kd, n', ci, w1, w2, w3, w4⟩ := t
  dsimp only at h1 h2 h3 ⊢
  subst h1 h2 h3
  have e1 : (As.reverse ++ rest).take n' = As.reverse := by rw [← hA, ← List.length_reverse]; exact List.take_left
  have e2 : (As.reverse ++ rest).drop n' = rest := by rw [← hA, ← List.length_reverse]; exact List.drop_left
  have e3 : n' ≤ (As.reverse ++ rest).length := by rw [List.length_append, List.length_reverse]; omega
  have e0 : n' + (bif Nat.beq 0 0 then 0 else 1) = n' := rfl
  rw [e0, e1, e2, List.reverse_reverse, h0, hl, Nat.ble_eq_true_of_le e3, Nat.ble_eq_true_of_le hs, show Nat.beq ml' ml' = true from Nat.beq_refl _]
  rfl
theorem av_callV {y ml na ci kd o : Nat} {As rest : List Value} (hy : (mvT y).2.2.1 = ml ∧ (mvT y).2.2.2.2.1 = kd + 1 ∧ (mvT y).2.2.2.2.2.1 = na ∧ (mvT y).2.2.2.2.2.2.1 = ci) (h0 : Nat.blt 0 y = true) (hA : As.length = na) (hl : (mvLs ml (.ref o :: As)).length = ml) (hs : (rest.map fun v => v.category).sum ≤ 8) (ho : (σ.1.2.2 o).1 = ci) : mvCall y (As.reverse ++ .ref o :: rest) σ = some (.inr (.inr (y, .ref o :: As, rest))) := by
  unfold mvCall
  obtain ⟨h1, h2, h3, h4⟩ := hy
  generalize mvT y = t at h1 h2 h3 h4 ⊢
  obtain ⟨y0, bytes, ml', ret, kd', n', ci', w1, w2, w3, w4⟩ := t
  dsimp only at h1 h2 h3 h4 ⊢
  subst h1 h2 h3 h4
  have hr : As.reverse ++ .ref o :: rest = (As.reverse ++ [.ref o]) ++ rest := by rw [List.append_assoc]; rfl
  have hlen : (As.reverse ++ [Value.ref o]).length = n' + 1 := by rw [List.length_append, List.length_reverse, hA]; rfl
  have e1 : (As.reverse ++ .ref o :: rest).take (n' + 1) = As.reverse ++ [.ref o] := by rw [hr, ← hlen]; exact List.take_left
  have e2 : (As.reverse ++ .ref o :: rest).drop (n' + 1) = rest := by rw [hr, ← hlen]; exact List.drop_left
  have e3 : n' + 1 ≤ (As.reverse ++ .ref o :: rest).length := by rw [hr, List.length_append, hlen]; omega
  have e4 : (As.reverse ++ .ref o :: rest)[n']? = some (.ref o) := by
    rw [List.getElem?_append_right (by rw [List.length_reverse]; omega), List.length_reverse, hA, Nat.sub_self]
    rfl
  have e0 : n' + (bif Nat.beq (kd + 1) 0 then 0 else 1) = n' + 1 := rfl
  have e5 : (As.reverse ++ [Value.ref o]).reverse = .ref o :: As := by rw [List.reverse_append, List.reverse_reverse]; rfl
  rw [e0, e1, e2, e5, h0, hl, Nat.ble_eq_true_of_le e3, Nat.ble_eq_true_of_le hs, show Nat.beq ml' ml' = true from Nat.beq_refl _]
  rw [e4]
  show (bif Nat.beq (σ.1.2.2 o).1 ci' then (some (Sum.inr (Sum.inr (y, Value.ref o :: As, rest))) : mvRs) else none) = _
  rw [ho, show Nat.beq ci' ci' = true from Nat.beq_refl _]
  rfl
theorem a_stat {i y ml na : Nat} {As rest : List Value} {v : Option Value} {σ' : mvSt} (hC : mvC k pc = (.invokestatic i, l, im, y, 0, w)) (hn : pc + 3 = n) (C : avE d y As σ (v, σ')) (hy : (mvT y).2.2.1 = ml ∧ (mvT y).2.2.2.2.1 = 0 ∧ (mvT y).2.2.2.2.2.1 = na) (h0 : Nat.blt 0 y = true) (hA : As.length = na) (hl : (mvLs ml As).length = ml) (hs : (rest.map fun v => v.category).sum ≤ 8) (hst : As.reverse ++ rest = st)
    (A : avA (d + 1) k n L (v.toList ++ rest) σ' r) : avA (d + 1) k pc L st σ r := by
  subst hn hst
  exact av_call (by unfold mvStep; rw [hC]; exact av_callS hy h0 hA hl hs) C A
theorem a_virt {i y ml na ci kd o b : Nat} {As rest : List Value} {v : Option Value} {σ' : mvSt} (hC : mvC k pc = (.invokevirtual i, l, im, y, b, w)) (hn : pc + 3 = n) (C : avE d y (.ref o :: As) σ (v, σ')) (hy : (mvT y).2.2.1 = ml ∧ (mvT y).2.2.2.2.1 = kd + 1 ∧ (mvT y).2.2.2.2.2.1 = na ∧ (mvT y).2.2.2.2.2.2.1 = ci) (h0 : Nat.blt 0 y = true) (hA : As.length = na) (hl : (mvLs ml (.ref o :: As)).length = ml) (hs : (rest.map fun v => v.category).sum ≤ 8) (ho : (σ.1.2.2 o).1 = ci) (hst : As.reverse ++ .ref o :: rest = st)
    (A : avA (d + 1) k n L (v.toList ++ rest) σ' r) : avA (d + 1) k pc L st σ r := by
  subst hn hst
  exact av_call (by unfold mvStep; rw [hC]; exact av_callV hy h0 hA hl hs ho) C A
theorem a_spec {i y ml na ci kd o : Nat} {As rest : List Value} {v : Option Value} {σ' : mvSt} (hC : mvC k pc = (.invokespecial i, l, im, y, 0, w)) (hn : pc + 3 = n) (C : avE d y (.ref o :: As) σ (v, σ')) (hy : (mvT y).2.2.1 = ml ∧ (mvT y).2.2.2.2.1 = kd + 1 ∧ (mvT y).2.2.2.2.2.1 = na ∧ (mvT y).2.2.2.2.2.2.1 = ci) (h0 : Nat.blt 0 y = true) (hA : As.length = na) (hl : (mvLs ml (.ref o :: As)).length = ml) (hs : (rest.map fun v => v.category).sum ≤ 8) (ho : (σ.1.2.2 o).1 = ci) (hst : As.reverse ++ .ref o :: rest = st)
    (A : avA (d + 1) k n L (v.toList ++ rest) σ' r) : avA (d + 1) k pc L st σ r := by
  subst hn hst
  exact av_call (by unfold mvStep; rw [hC]; exact av_callV hy h0 hA hl hs ho) C A
end AV
