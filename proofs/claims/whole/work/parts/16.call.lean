/-! a call by contract -/
theorem mvOkT_all {a : Nat} (h : mvOkT a = true) : (∃ w, mvWd w (.code (mvT a).1 (mvT a).2.1 (mvT a).2.2.1 (mvT a).2.2.2.1) = true) ∧ (∃ w, mvWd w (.initialized (mvT a).1.cls) = true) ∧ (mvT a).1.cls ≠ "java/lang/invoke/MethodHandle" ∧ (mvT a).1.cls ≠ "java/lang/invoke/VarHandle" ∧ plainName (mvT a).1.cls = true
    ∧ (parseMethodDescriptor (mvT a).1.desc).map (fun d => d.parameters.length) = some (mvT a).2.2.2.2.2.1 ∧ (mvT a).2.2.1 ≤ 40
    ∧ (((mvT a).2.2.2.2.1 = 0 ∧ ∃ w, mvWd w (.static (mvT a).1) = true)
      ∨ ((mvT a).2.2.2.2.1 = 1 ∧ (∃ w, mvWd w (.instanceMethod (mvT a).1) = true) ∧ (∃ w, mvWd w (.selects (mvT a).1.cls (mvT a).1 (mvT a).1) = true) ∧ (((mvT a).2.2.2.2.2.2.1 < 13 ∧ mvCn (mvT a).2.2.2.2.2.2.1 = (mvT a).1.cls) ∨ ((mvT a).2.2.2.2.2.2.1 = 13 ∧ (mvT a).1.cls = "java/lang/String")))
      ∨ ((mvT a).2.2.2.2.1 = 2 ∧ (∃ w, mvWd w (.instanceMethod (mvT a).1) = true) ∧ (mvT a).1.name = "<init>" ∧ (mvT a).2.2.2.1 = none ∧ (mvT a).2.2.2.2.2.2.1 < 13 ∧ mvCn (mvT a).2.2.2.2.2.2.1 = (mvT a).1.cls)) := by
  unfold mvOkT at h
  generalize mvT a = t at h ⊢
  obtain ⟨y, bytes, ml, ret, kd, n, ci, w1, w2, w3, w4⟩ := t
  dsimp only at h ⊢
  rw [Bool.and_eq_true] at h
  obtain ⟨h, h8⟩ := h
  simp only [Bool.and_eq_true] at h
  obtain ⟨⟨⟨⟨⟨⟨h1, h2⟩, h3⟩, h4⟩, h5⟩, h6⟩, h7⟩ := h
  refine ⟨⟨w1, h1⟩, ⟨w4, h2⟩, of_decide_eq_true h3, of_decide_eq_true h4, h5, of_decide_eq_true h6, Nat.le_of_ble_eq_true h7, ?_⟩
  match kd, h8 with
  | 0, h8 => exact Or.inl ⟨rfl, w2, h8⟩
  | 1, h8 =>
    have h8 : (mvWd w2 (.instanceMethod y) && mvWd w3 (.selects y.cls y y) && ((Nat.blt ci 13 && decide (mvCn ci = y.cls)) || (Nat.beq ci 13 && decide (y.cls = "java/lang/String")))) = true := h8
    simp only [Bool.and_eq_true, Bool.or_eq_true] at h8
    exact Or.inr (Or.inl ⟨rfl, ⟨w2, h8.1.1⟩, ⟨w3, h8.1.2⟩, h8.2.imp (fun z => ⟨Nat.blt_eq.mp z.1, of_decide_eq_true z.2⟩) (fun z => ⟨Nat.eq_of_beq_eq_true z.1, of_decide_eq_true z.2⟩)⟩)
  | 2, h8 =>
    have h8 : (mvWd w2 (.instanceMethod y) && decide (y.name = "<init>") && decide (ret = none) && Nat.blt ci 13 && decide (mvCn ci = y.cls)) = true := h8
    simp only [Bool.and_eq_true] at h8
    exact Or.inr (Or.inr ⟨rfl, ⟨w2, h8.1.1.1.1⟩, of_decide_eq_true h8.1.1.1.2, of_decide_eq_true h8.1.1.2, Nat.blt_eq.mp h8.1.2, of_decide_eq_true h8.2⟩)
  | n + 3, h8 => cases h8
section MK
variable {p : Program} {l : Launch} {e : Env} {R : Room} {s : State} {m : MethodId} {args : Array Value} {below : List Frame} {meth : Method} {c : Code} {Q : State → Prop} {E : mvE} {k : Nat}
variable {cells slots pc : Nat} {L st : List Value} {σ : mvSt}
theorem mv_words (X : mvCx E k p s m args meth c) {a : Nat} (hcd : ∃ w, mvWd w (.code (mvT a).1 (mvT a).2.1 (mvT a).2.2.1 (mvT a).2.2.2.1) = true) : ∀ w ∈ mvMw a, ∀ (a' : Array Value) (U : State), s.WarmedH U.vm → w.before a' U = true := by
  intro w hw a' U hWm
  obtain ⟨i, hi⟩ := hcd
  rcases List.mem_cons.mp hw with rfl | hw
  · exact mv_warm (A := args) rfl hWm (mo_word X hi rfl)
  · have h1 := List.mem_filter.mp hw
    exact mv_warm (A := args) h1.2 hWm (X.2.2.2.2.1 w hw)
theorem mv_len {a : Nat} {n : Nat} (h : (parseMethodDescriptor (mvT a).1.desc).map (fun d => d.parameters.length) = some n) : ∀ sig, parseMethodDescriptor (mvT a).1.desc = some sig → n = sig.parameters.length := by
  intro sig hs
  rw [hs] at h
  exact (Option.some.inj h).symm
/-- the receiver's cell -/
theorem mv_recv {H : Heap} (hW : mvWorld E σ H) (hK : mvKF E s) {o ci : Nat} {C : String} (ho : (σ.1.2.2 o).1 = ci) (hC : (ci < 13 ∧ mvCn ci = C) ∨ (ci = 13 ∧ C = "java/lang/String")) : ∃ b, mvTv E (.ref o) = .ref b ∧ ∃ cellB : Cell, H[b]? = some cellB ∧ cellB.vm.isStatics = false ∧ s.vm.findClass C = some cellB.cls := by
  rcases hC with ⟨hci, rfl⟩ | ⟨rfl, rfl⟩
  · obtain ⟨h7, hn, cell, q1, q2, q3, q4⟩ := mo_cell hW hK ho hci
    refine ⟨_, mvTv_own h7, cell, q1, by rw [q3]; rfl, ?_⟩
    rw [q2]
    exact (hK.1 ci _ (mv_gc ci hci)).2.1
  · have h7 := mo_ext hW (o := o) (by omega)
    obtain ⟨e1, e2, e3⟩ := hW.2.2.2.2.2 o h7
    obtain ⟨a, ha, hO, -⟩ := hK.2.2.2.2.2.2.2.2.1 o h7 (by rw [← e1]; exact ho)
    obtain ⟨cell, g1, g2, g3, g4⟩ := hO
    have hal : a < (mvH E).size := (Array.getElem?_eq_some_iff.mp g1).1
    refine ⟨a, ?_, cell, by rw [hW.2.2.1 a hal]; exact g1, g2, g3⟩
    show va_rf (mvLo E o) = _
    unfold mvLo
    rw [if_pos h7, ha]
    rfl
/-- a call: the callee's contract is met, the frame goes on -/
theorem mv_callG (X : mvCx E k p s m args meth c) {ins : Instr} {i a b w d mc ms : Nat} {im : Int} {as rest : List Value} {r : Option Value × mvSt} (hd : decode (mvT k).2.1 pc = .ok (ins, 3)) (hok : mvOk1 k pc ins im a b w = true)
    (hins : ins = .invokevirtual i ∨ (ins = .invokestatic i ∧ b ≠ 2 ∧ b ≠ 4 ∧ b ≠ 5 ∧ b ≠ 6 ∧ b ≠ 7) ∨ (ins = .invokespecial i ∧ b ≠ 3))
    (hcall : mvCall a st σ = some (.inr (.inr (a, as, rest)))) (hR : d + 2 ≤ R.frames ∧ 100 * (d + 2) ≤ R.locals) (hc : cells + mc ≤ R.cells) (hs : slots + ms ≤ R.slots)
    (hM : Met l (mvT a).1 (mvMw a) (mvRm d mc ms) (mvPc E as σ) (mvQc E r) mc ms (fun q => (mvH E).size ≤ q))
    (G : mvG E k p l e R s m args below meth c Q (cells + mc) (slots + ms) (pc + 3) L (r.1.toList ++ rest) r.2) : mvG E k p l e R s m args below meth c Q cells slots pc L st σ := by
  intro H locs ls hW hL hlo
  have hK := X.2.2.2.2.2.2
  obtain ⟨as', rest', e1, ha0, hll, hrs, hst⟩ := mvCall_inv hcall
  cases e1
  have haN : a < mvN ∧ ((ins = .invokevirtual i ∧ (mvT a).2.2.2.2.1 = 1) ∨ (ins = .invokestatic i ∧ (mvT a).2.2.2.2.1 = 0) ∨ (ins = .invokespecial i ∧ (mvT a).2.2.2.2.1 = 2)) ∧ (mvWd w (.methodLink (mvT k).1.cls i (mvT a).1) = true ∨ mvWd w (.methodLinkNest (mvT k).1.cls i (mvT a).1 mvHo) = true) := by
    rcases hins with rfl | ⟨rfl, hb⟩ | ⟨rfl, hb⟩
    · have hok : (Nat.blt a mvN && Nat.beq (mvT a).2.2.2.2.1 1 && (mvWd w (.methodLink (mvT k).1.cls i (mvT a).1) || mvWd w (.methodLinkNest (mvT k).1.cls i (mvT a).1 mvHo))) = true := hok
      simp only [Bool.and_eq_true, Bool.or_eq_true] at hok
      exact ⟨Nat.blt_eq.mp hok.1.1, Or.inl ⟨rfl, Nat.eq_of_beq_eq_true hok.1.2⟩, hok.2⟩
    · have hok : (bif Nat.beq b 2 then mvWd w (.methodLink (mvT k).1.cls i arraycopyName) else bif Nat.beq b 4 then mvWd w (.methodLink (mvT k).1.cls i Lib.Math.max.name) else bif Nat.beq b 5 then mvWd w (.methodLink (mvT k).1.cls i Lib.Math.min.name) else bif Nat.beq b 6 then mvWd w (.methodLink (mvT k).1.cls i Lib.MathLoose.max_long.x) else bif Nat.beq b 7 then mvWd w (.methodLink (mvT k).1.cls i Lib.MathLoose.min_long.x) else (Nat.blt a mvN && Nat.beq (mvT a).2.2.2.2.1 0 && (mvWd w (.methodLink (mvT k).1.cls i (mvT a).1) || mvWd w (.methodLinkNest (mvT k).1.cls i (mvT a).1 mvHo)))) = true := hok
      have f : ∀ n, b ≠ n → Nat.beq b n = false := fun n hn => by
        cases hq : Nat.beq b n with
        | false => rfl
        | true => exact absurd (Nat.eq_of_beq_eq_true hq) hn
      rw [f 2 hb.1, f 4 hb.2.1, f 5 hb.2.2.1, f 6 hb.2.2.2.1, f 7 hb.2.2.2.2] at hok
      simp only [cond_false, Bool.and_eq_true, Bool.or_eq_true] at hok
      exact ⟨Nat.blt_eq.mp hok.1.1, Or.inr (Or.inl ⟨rfl, Nat.eq_of_beq_eq_true hok.1.2⟩), hok.2⟩
    · have hok : (bif Nat.beq b 3 then mvWd w (.methodLink (mvT k).1.cls i Lib.objectInit) else (Nat.blt a mvN && Nat.beq (mvT a).2.2.2.2.1 2 && (mvWd w (.methodLink (mvT k).1.cls i (mvT a).1) || mvWd w (.methodLinkNest (mvT k).1.cls i (mvT a).1 mvHo)))) = true := hok
      have f : Nat.beq b 3 = false := by
        cases hq : Nat.beq b 3 with
        | false => rfl
        | true => exact absurd (Nat.eq_of_beq_eq_true hq) hb
      rw [f] at hok
      simp only [cond_false, Bool.and_eq_true, Bool.or_eq_true] at hok
      exact ⟨Nat.blt_eq.mp hok.1.1, Or.inr (Or.inr ⟨rfl, Nat.eq_of_beq_eq_true hok.1.2⟩), hok.2⟩
  obtain ⟨haN, hkd, hlk⟩ := haN
  obtain ⟨hcd, ⟨wi, hini⟩, hn1, hn2, hpl, hpar, hml, hT⟩ := mvOkT_all (mv_okT a haN ha0)
  have hws := mv_words X hcd
  have hcm : Cond.code (mvT a).1 (mvT a).2.1 (mvT a).2.2.1 (mvT a).2.2.2.1 ∈ mvMw a := List.mem_cons_self
  obtain ⟨wc, hcd⟩ := hcd
  have hcb := mo_word X hcd rfl
  have hib := mo_word X hini rfl
  have hfr : (mvRm d mc ms).frames + 1 ≤ R.frames := hR.1
  have hlr : 8 + ((mvT a).2.2.1 + 11) + (mvRm d mc ms).locals ≤ R.locals := by
    show 8 + ((mvT a).2.2.1 + 11) + 100 * (d + 1) ≤ R.locals
    omega
  have S : CallFix p m c (mvT k).2.1 (mvT k).2.2.1 s args mvWs (mvT k).1.cls := ⟨X.1, X.2.1, X.2.2.1, X.2.2.2.1, X.2.2.2.2.1⟩
  have hpre : ∀ U : State, U.heap = H → s.WarmedH U.vm → mvPc E as σ (as.map (mvTv E)).toArray U := fun U hU hWm => ⟨rfl, by rw [hU]; exact hW, hK.warm hWm⟩
  rcases hkd with ⟨rfl, hkd⟩ | ⟨rfl, hkd⟩ | ⟨rfl, hkd⟩
  · rcases hT with ⟨z, -⟩ | ⟨-, ⟨w2, hin⟩, ⟨w3, hse⟩, hci⟩ | ⟨z, -⟩
    · omega
    · rcases hst with ⟨z, -⟩ | ⟨-, o, as', rfl, hal, rfl, hoc⟩
      · omega
      · obtain ⟨bb, hbb, hcell⟩ := mv_recv hW hK hoc hci
        have hin := mo_word X hin rfl
        have hse := mo_word X hse rfl
        rw [List.map_append, List.map_reverse, List.map_cons, hbb]
        rw [List.map_cons, hbb] at hpre
        rcases hlk with hlk | hlk
        · exact mo_ran (va_runV (C := (mvT a).1.cls) (As := as'.map (mvTv E)) S hM ⟨⟨rfl, rfl, hfr, hlr, hws, hcm, hcb, hib, ⟨hn1, hn2⟩, mv_len hpar, mo_word X hlk rfl⟩, hin, hse⟩ ⟨mvPc_blind _, hcell, hpre⟩ rfl (by rw [List.length_map]; exact hal) hL.2.1 rfl (mo_mr hrs) hd ⟨hc, hs⟩) G hL hlo
        · exact mo_ran (va_runVN (C := (mvT a).1.cls) (As := as'.map (mvTv E)) S hM ⟨⟨⟨rfl, rfl, hfr, hlr, hws, hcm⟩, hcb, hib, ⟨hn1, hn2⟩, mv_len hpar, mo_word X hlk rfl⟩, hin, hse⟩ ⟨mvPc_blind _, hcell, hpre⟩ rfl (by rw [List.length_map]; exact hal) hL.2.1 rfl (mo_mr hrs) hd ⟨hc, hs⟩) G hL hlo
    · omega
  · rcases hT with ⟨-, w2, hsta⟩ | ⟨z, -⟩ | ⟨z, -⟩
    · rcases hst with ⟨-, rfl, hal⟩ | ⟨z, -⟩
      · have hsta := mo_word X hsta rfl
        rw [List.map_append, List.map_reverse]
        rcases hlk with hlk | hlk
        · exact mo_ran (va_runS (As := as.map (mvTv E)) S hM ⟨⟨rfl, rfl, hfr, hlr, hws, hcm, hcb, hib, ⟨hn1, hn2⟩, mv_len hpar, mo_word X hlk rfl⟩, hsta⟩ ⟨mvPc_blind _, hpre⟩ rfl (by rw [List.length_map]; exact hal) hL.2.1 rfl (mo_mr hrs) hd ⟨hc, hs⟩) G hL hlo
        · exact mo_ran (va_runSN (As := as.map (mvTv E)) S hM ⟨⟨⟨rfl, rfl, hfr, hlr, hws, hcm⟩, hcb, hib, ⟨hn1, hn2⟩, mv_len hpar, mo_word X hlk rfl⟩, hsta, trivial⟩ ⟨mvPc_blind _, hpre⟩ rfl (by rw [List.length_map]; exact hal) hL.2.1 rfl (mo_mr hrs) hd ⟨hc, hs⟩) G hL hlo
      · exact absurd hkd z
    · omega
    · omega
  · rcases hT with ⟨z, -⟩ | ⟨z, -⟩ | ⟨-, ⟨w2, hin⟩, hnm, hret, hci, hcn⟩
    · omega
    · omega
    · rcases hst with ⟨z, -⟩ | ⟨-, o, as', rfl, hal, rfl, hoc⟩
      · omega
      · obtain ⟨bb, hbb, hcell⟩ := mv_recv hW hK hoc (Or.inl ⟨hci, hcn⟩)
        have hin := mo_word X hin rfl
        rw [List.map_append, List.map_reverse, List.map_cons, hbb]
        rw [List.map_cons, hbb] at hpre
        rw [hret] at hcm hcb
        rcases hlk with hlk | hlk
        · exact mo_ran (va_runI (As := as'.map (mvTv E)) S hM ⟨⟨rfl, rfl, hfr, hlr, hws, hcm, hcb, hib, ⟨hn1, hn2⟩, mv_len hpar, mo_word X hlk rfl⟩, hnm, hin⟩ ⟨mvPc_blind _, hpre⟩ rfl (by rw [List.length_map]; exact hal) hL.2.1 rfl (mo_mr hrs) hd ⟨hc, hs⟩) G hL hlo
        · exact mo_ran (va_runIN (As := as'.map (mvTv E)) S hM ⟨⟨⟨rfl, rfl, hfr, hlr, hws, hcm⟩, hcb, hib, ⟨hn1, hn2⟩, mv_len hpar, mo_word X hlk rfl⟩, hnm, hin⟩ ⟨mvPc_blind _, hpre⟩ rfl (by rw [List.length_map]; exact hal) hL.2.1 rfl (mo_mr hrs) hd ⟨hc, hs⟩) G hL hlo
end MK
