/-! calls, answers, and the whole machine -/
theorem mvCall_inv {a : Nat} {st : List Value} {σ : mvSt} {z : (Nat × List Value × List Value × mvSt) ⊕ ((Option Value × mvSt) ⊕ (Nat × List Value × List Value))} (h : mvCall a st σ = some z) :
    ∃ as rest, z = .inr (.inr (a, as, rest)) ∧ 0 < a ∧ (mvLs (mvT a).2.2.1 as).length = (mvT a).2.2.1 ∧ (rest.map fun v => v.category).sum ≤ 8 ∧
      (((mvT a).2.2.2.2.1 = 0 ∧ st = as.reverse ++ rest ∧ as.length = (mvT a).2.2.2.2.2.1) ∨ ((mvT a).2.2.2.2.1 ≠ 0 ∧ ∃ o as', as = .ref o :: as' ∧ as'.length = (mvT a).2.2.2.2.2.1 ∧ st = as'.reverse ++ .ref o :: rest ∧ (σ.1.2.2 o).1 = (mvT a).2.2.2.2.2.2.1)) := by
  unfold mvCall at h
  generalize mvT a = t at h ⊢
  obtain ⟨y, bytes, ml, ret, kd, n, ci, w1, w2, w3, w4⟩ := t
  dsimp only at h ⊢
  obtain ⟨h1, h2⟩ := mvCond_inv h
  simp only [Bool.and_eq_true] at h1
  obtain ⟨⟨⟨g1, g2⟩, g3⟩, g4⟩ := h1
  have g1 := Nat.blt_eq.mp g1
  have g2 := Nat.eq_of_beq_eq_true g2
  have g3 := Nat.le_of_ble_eq_true g3
  have g4 := Nat.le_of_ble_eq_true g4
  match kd, h2, g2, g3, g4 with
  | 0, h2, g2, g3, g4 =>
    cases h2
    have g3 : n ≤ st.length := g3
    exact ⟨_, _, rfl, g1, g2, g4, Or.inl ⟨rfl, by rw [List.reverse_reverse]; exact (List.take_append_drop n st).symm, by rw [List.length_reverse, List.length_take]; omega⟩⟩
  | kd + 1, h2, g2, g3, g4 =>
    have g3 : n + 1 ≤ st.length := g3
    have h2 : (match st[n]? with
          | some (.ref o) => bif Nat.beq (σ.1.2.2 o).1 ci then some (.inr (.inr (a, (st.take (n + 1)).reverse, st.drop (n + 1)))) else none
          | _ => none) = some z := h2
    split at h2
    · next o ho =>
      obtain ⟨h3, h4⟩ := mvCond_inv h2
      cases h4
      have e1 : (st.take (n + 1)).reverse = .ref o :: (st.take n).reverse := by
        rw [List.take_succ, ho]
        simp
      refine ⟨_, _, rfl, g1, g2, g4, Or.inr ⟨by omega, o, (st.take n).reverse, e1, by rw [List.length_reverse, List.length_take]; omega, ?_, Nat.eq_of_beq_eq_true h3⟩⟩
      rw [List.reverse_reverse]
      have e2 : st.take (n + 1) ++ st.drop (n + 1) = st := List.take_append_drop _ _
      rw [List.take_succ, ho] at e2
      simpa using e2.symm
    · cases h2
/-- what an answer is -/
def mvRf (k pc : Nat) (v : Option Value) : Prop := (∃ x ty, v = some (.int x) ∧ decode (mvT k).2.1 pc = .ok (.ireturn, 1) ∧ (mvT k).2.2.2.1 = some ty ∧ narrow ty (.int x) = .int x)
  ∨ (∃ x, v = some (.long x) ∧ decode (mvT k).2.1 pc = .ok (.lreturn, 1) ∧ (mvT k).2.2.2.1 = some .long) ∨ (∃ x n, v = some x ∧ (x = .null ∨ ∃ o, x = .ref o) ∧ decode (mvT k).2.1 pc = .ok (.areturn, 1) ∧ (mvT k).2.2.2.1 = some (.object n))
  ∨ (v = none ∧ decode (mvT k).2.1 pc = .ok (.return_, 1) ∧ (mvT k).2.2.2.1 = none)
theorem mvIret_inv {k : Nat} {st : List Value} {σ : mvSt} {z : (Nat × List Value × List Value × mvSt) ⊕ ((Option Value × mvSt) ⊕ (Nat × List Value × List Value))} (h : mvIret k st σ = some z) : ∃ v ty, z = .inr (.inl (some (.int v), σ)) ∧ st = [.int v] ∧ (mvT k).2.2.2.1 = some ty ∧ narrow ty (.int v) = .int v := by
  unfold mvIret at h
  split at h
  · next v =>
    split at h
    · next hr => cases h; exact ⟨v, .int, rfl, rfl, hr, rfl⟩
    · next hr =>
      obtain ⟨h1, h2⟩ := mvCond_inv h
      cases h2
      exact ⟨v, .boolean, rfl, rfl, hr, by rcases mv_01 h1 with rfl | rfl <;> rfl⟩
    · next hr =>
      split at h
      · next hv => cases h; exact ⟨v, .byte, rfl, rfl, hr, congrArg Value.int hv⟩
      · cases h
    · next hr =>
      split at h
      · next hv => cases h; exact ⟨v, .char, rfl, rfl, hr, congrArg Value.int hv⟩
      · cases h
    · cases h
  · cases h
theorem mvLret_inv {k : Nat} {st : List Value} {σ : mvSt} {z : (Nat × List Value × List Value × mvSt) ⊕ ((Option Value × mvSt) ⊕ (Nat × List Value × List Value))} (h : mvLret k st σ = some z) : ∃ v, z = .inr (.inl (some (.long v), σ)) ∧ st = [.long v] ∧ (mvT k).2.2.2.1 = some .long := by
  unfold mvLret at h
  split at h
  · next hr => cases h; exact ⟨_, rfl, rfl, hr⟩
  · cases h
theorem mvAret_inv {k : Nat} {st : List Value} {σ : mvSt} {z : (Nat × List Value × List Value × mvSt) ⊕ ((Option Value × mvSt) ⊕ (Nat × List Value × List Value))} (h : mvAret k st σ = some z) : ∃ v n, (v = .null ∨ ∃ o, v = .ref o) ∧ z = .inr (.inl (some v, σ)) ∧ st = [v] ∧ (mvT k).2.2.2.1 = some (.object n) := by
  unfold mvAret at h
  split at h
  · next v n hr => cases h; exact ⟨_, n, Or.inr ⟨v, rfl⟩, rfl, rfl, hr⟩
  · next n hr => cases h; exact ⟨_, n, Or.inl rfl, rfl, rfl, hr⟩
  · cases h
theorem mvVret_inv {k : Nat} {st : List Value} {σ : mvSt} {z : (Nat × List Value × List Value × mvSt) ⊕ ((Option Value × mvSt) ⊕ (Nat × List Value × List Value))} (h : mvVret k st σ = some z) : z = .inr (.inl (none, σ)) ∧ st = [] ∧ (mvT k).2.2.2.1 = none := by
  unfold mvVret at h
  split at h
  · next hr => cases h; exact ⟨rfl, rfl, hr⟩
  · cases h
theorem mvStat_kind {k pc : Nat} {i : Nat} {im : Int} {a b : Nat} {L st : List Value} {σ : mvSt} : mvOn σ (mvX k pc (.invokestatic i) im a b L st σ) ∨ (mvX k pc (.invokestatic i) im a b L st σ = mvCall a st σ ∧ b ≠ 2 ∧ b ≠ 4 ∧ b ≠ 5 ∧ b ≠ 6 ∧ b ≠ 7) := by
  match b with
  | 2 => exact Or.inl (mvCopy_on _ _ _ _)
  | 4 => exact Or.inl (mvM2_on _ _ _ _ _)
  | 5 => exact Or.inl (mvM2_on _ _ _ _ _)
  | 6 => exact Or.inl (mvM2l_on _ _ _ _ _)
  | 7 => exact Or.inl (mvM2l_on _ _ _ _ _)
  | 0 => exact Or.inr ⟨rfl, by omega⟩
  | 1 => exact Or.inr ⟨rfl, by omega⟩
  | 3 => exact Or.inr ⟨rfl, by omega⟩
  | n + 8 => exact Or.inr ⟨rfl, by omega⟩
theorem mvSpcl_kind {k pc : Nat} {i : Nat} {im : Int} {a b : Nat} {L st : List Value} {σ : mvSt} : mvOn σ (mvX k pc (.invokespecial i) im a b L st σ) ∨ (mvX k pc (.invokespecial i) im a b L st σ = mvCall a st σ ∧ b ≠ 3) := by
  cases hb : Nat.beq b 3 with
  | true =>
    have hb := Nat.eq_of_beq_eq_true hb
    subst hb
    exact Or.inl (mvObj_on _ _ _ _)
  | false =>
    refine Or.inr ⟨?_, Nat.ne_of_beq_eq_false hb⟩
    show (bif Nat.beq b 3 then mvObj (pc + 3) L st σ else mvCall a st σ) = _
    rw [hb]
    rfl
/-- what an instruction is: a step, a call, an answer -/
theorem mvX_kind (k pc : Nat) (ins : Instr) (im : Int) (a b : Nat) (L st : List Value) (σ : mvSt) : mvOn σ (mvX k pc ins im a b L st σ)
    ∨ (mvX k pc ins im a b L st σ = mvCall a st σ ∧ ((∃ i, ins = .invokevirtual i) ∨ (∃ i, ins = .invokestatic i ∧ b ≠ 2 ∧ b ≠ 4 ∧ b ≠ 5 ∧ b ≠ 6 ∧ b ≠ 7) ∨ (∃ i, ins = .invokespecial i ∧ b ≠ 3)))
    ∨ (ins = .ireturn ∧ mvX k pc ins im a b L st σ = mvIret k st σ) ∨ (ins = .lreturn ∧ mvX k pc ins im a b L st σ = mvLret k st σ) ∨ (ins = .areturn ∧ mvX k pc ins im a b L st σ = mvAret k st σ) ∨ (ins = .return_ ∧ mvX k pc ins im a b L st σ = mvVret k st σ) := by
  cases ins with
  | invokevirtual i => exact Or.inr (Or.inl ⟨rfl, Or.inl ⟨i, rfl⟩⟩)
  | invokestatic i =>
    rcases mvStat_kind (k := k) (pc := pc) (i := i) (im := im) (a := a) (b := b) (L := L) (st := st) (σ := σ) with h | h
    · exact Or.inl h
    · exact Or.inr (Or.inl ⟨h.1, Or.inr (Or.inl ⟨i, rfl, h.2⟩)⟩)
  | invokespecial i =>
    rcases mvSpcl_kind (k := k) (pc := pc) (i := i) (im := im) (a := a) (b := b) (L := L) (st := st) (σ := σ) with h | h
    · exact Or.inl h
    · exact Or.inr (Or.inl ⟨h.1, Or.inr (Or.inr ⟨i, rfl, h.2⟩)⟩)
  | ireturn => exact Or.inr (Or.inr (Or.inl ⟨rfl, rfl⟩))
  | lreturn => exact Or.inr (Or.inr (Or.inr (Or.inl ⟨rfl, rfl⟩)))
  | areturn => exact Or.inr (Or.inr (Or.inr (Or.inr (Or.inl ⟨rfl, rfl⟩))))
  | return_ => exact Or.inr (Or.inr (Or.inr (Or.inr (Or.inr ⟨rfl, rfl⟩))))
  | ldc i => exact Or.inl (mvOn_c (mvPush_on _ _ _ _ _) (mvPush_on _ _ _ _ _))
  | getstatic i => exact Or.inl (mvOn_c (mvPush_on _ _ _ _ _) (mvPush_on _ _ _ _ _))
  | newarray t => cases t <;> first | exact Or.inl (mvNewA_on _ _ _ _ _) | exact Or.inl mvOn_none
  | if_acmp cc off => cases cc <;> first | exact Or.inl (mvAcmp_on _ _ _ _ _) | exact Or.inl mvOn_none
  | new i => exact Or.inl mvOn_make
  | _ => first
    | exact Or.inl mvOn_none
    | exact Or.inl (mvPush_on _ _ _ _ _)
    | exact Or.inl (mvLoadI_on _ _ _ _ _)
    | exact Or.inl (mvLoadL_on _ _ _ _ _)
    | exact Or.inl (mvLoadA_on _ _ _ _ _)
    | exact Or.inl (mvStI_on _ _ _ _ _)
    | exact Or.inl (mvStL_on _ _ _ _ _)
    | exact Or.inl (mvStA_on _ _ _ _ _)
    | exact Or.inl (mvI2_on _ _ _ _ _)
    | exact Or.inl (mvI2z_on _ _ _ _ _)
    | exact Or.inl (mvI1_on _ _ _ _ _)
    | exact Or.inl (mvL2_on _ _ _ _ _)
    | exact Or.inl (mvL2z_on _ _ _ _ _)
    | exact Or.inl (mvLsh_on _ _ _ _ _)
    | exact Or.inl (mvGet_on _ _ _ _ _ _)
    | exact Or.inl (mvPutf_on _ _ _ _ _ _)
    | exact Or.inl (mvIald_on _ _ _ _)
    | exact Or.inl (mvBald_on _ _ _ _)
    | exact Or.inl (mvLald_on _ _ _ _)
    | exact Or.inl (mvAald_on _ _ _ _)
    | exact Or.inl (mvIast_on _ _ _ _)
    | exact Or.inl (mvBast_on _ _ _ _)
    | exact Or.inl (mvLast_on _ _ _ _)
    | exact Or.inl (mvAast_on _ _ _ _)
    | exact Or.inl (mvAlen_on _ _ _ _)
    | exact Or.inl (mvNewA_on _ _ _ _ _)
    | exact Or.inl (mvIinc_on _ _ _ _ _ _)
    | exact Or.inl (mvI2L_on _ _ _ _)
    | exact Or.inl (mvL2I_on _ _ _ _)
    | exact Or.inl (mvLneg_on _ _ _ _)
    | exact Or.inl (mvLcmp_on _ _ _ _)
    | exact Or.inl (mvDup_on _ _ _ _)
    | exact Or.inl (mvDup2_on _ _ _ _)
    | exact Or.inl (mvPop_on _ _ _ _)
    | exact Or.inl (mvIf1_on _ _ _ _ _ _)
    | exact Or.inl (mvIf2_on _ _ _ _ _ _)
    | exact Or.inl (mvIfN_on _ _ _ _ _)
    | exact Or.inl (mvIfNN_on _ _ _ _ _)
    | exact Or.inl (mvTab_on _ _ _ _ _ _ _ _)
    | exact Or.inl (mvLook_on _ _ _ _ _ _)
    | exact Or.inl (mvOn_J rfl)
theorem mv_mono {k pc : Nat} {L st : List Value} {σ : mvSt} {q : mvQ} (h : mvStep k pc L st σ = some (.inl q)) : σ.1.1 ≤ q.2.2.2.1.1 ∧ σ.1.2.1 ≤ q.2.2.2.1.2.1 := by
  unfold mvStep at h
  split at h
  next ins len im a b w hC =>
  rcases mvX_kind k pc ins im a b L st σ with g | ⟨g, -⟩ | ⟨-, g⟩ | ⟨-, g⟩ | ⟨-, g⟩ | ⟨-, g⟩
  · obtain ⟨q', e1, e2⟩ := g _ h
    cases e1
    exact e2
  · rw [g] at h
    exact absurd h (mvCall_go a)
  · rw [g] at h
    exact absurd h mv_iret_go
  · rw [g] at h
    exact absurd h mv_lret_go
  · rw [g] at h
    exact absurd h mv_aret_go
  · rw [g] at h
    exact absurd h mv_vret_go
theorem mv_answer {k pc : Nat} {L st : List Value} {σ : mvSt} {r : Option Value × mvSt} (hk : k < mvN) (h : mvStep k pc L st σ = some (.inr (.inl r))) : r.2 = σ ∧ st = r.1.toList ∧ mvRf k pc r.1 := by
  unfold mvStep at h
  split at h
  next ins len im a b w hC =>
  rcases mvX_kind k pc ins im a b L st σ with g | ⟨g, -⟩ | ⟨e, g⟩ | ⟨e, g⟩ | ⟨e, g⟩ | ⟨e, g⟩
  · obtain ⟨q', e1, e2⟩ := g _ h
    cases e1
  · rw [g] at h
    obtain ⟨as, rest, e1, -⟩ := mvCall_inv h
    cases e1
  all_goals
    subst e
    obtain ⟨⟨len', hd, hlen⟩, -⟩ := mv_spec hk hC (by intro z; cases z)
    rw [g] at h
  · obtain ⟨v, ty, e1, e2, e3, e4⟩ := mvIret_inv h
    cases e1
    exact ⟨rfl, e2, Or.inl ⟨v, ty, rfl, mv_dec hd hlen rfl, e3, e4⟩⟩
  · obtain ⟨v, e1, e2, e3⟩ := mvLret_inv h
    cases e1
    exact ⟨rfl, e2, Or.inr (Or.inl ⟨v, rfl, mv_dec hd hlen rfl, e3⟩)⟩
  · obtain ⟨v, n, e0, e1, e2, e3⟩ := mvAret_inv h
    cases e1
    exact ⟨rfl, e2, Or.inr (Or.inr (Or.inl ⟨v, n, rfl, e0, mv_dec hd hlen rfl, e3⟩))⟩
  · obtain ⟨e1, e2, e3⟩ := mvVret_inv h
    cases e1
    exact ⟨rfl, e2, Or.inr (Or.inr (Or.inr ⟨rfl, mv_dec hd hlen rfl, e3⟩))⟩
