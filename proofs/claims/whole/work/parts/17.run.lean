/-! THE MACHINE, RUN BY RUN -/
def mvFA (as : List Value) : List Value := as.flatMap fun v => bif mvIsL v then [v, mvU] else [v]
theorem mvLs_eq (n : Nat) (as : List Value) : mvLs n as = mvFA as ++ List.replicate (n - (mvFA as).length) mvU := rfl
theorem mvFA_len (E : mvE) : ∀ as : List Value, (lg_sl (as.map (mvTv E))).length = (mvFA as).length
  | [] => rfl
  | v :: t => by
    have ih := mvFA_len E t
    unfold lg_sl mvFA at ih ⊢
    rw [List.map_cons, List.flatMap_cons, List.flatMap_cons, List.length_append, List.length_append, ih, mvTv_cat]
    cases hv : mvIsL v with
    | true => rw [if_pos (mvIsL_cat.mp hv)]; rfl
    | false => rw [if_neg (fun z => by rw [mvIsL_cat.mpr z] at hv; cases hv)]; rfl
theorem mvFA_at (E : mvE) : ∀ (as : List Value) (j i : Nat) (v : Value), (mvFA as)[i]? = some v → mvDef v = true → (j + i, mvTv E v) ∈ lv_args j (as.map (mvTv E))
  | [], j, i, v, h, _ => by simp [mvFA] at h
  | u :: t, j, i, v, h, hd => by
    have ih := mvFA_at E t
    have e : mvFA (u :: t) = (bif mvIsL u then [u, mvU] else [u]) ++ mvFA t := by unfold mvFA; rw [List.flatMap_cons]
    rw [e] at h
    rw [List.map_cons]
    show (j + i, mvTv E v) ∈ (j, mvTv E u) :: lv_args (if (mvTv E u).category = 2 then j + 2 else j + 1) (t.map (mvTv E))
    rw [mvTv_cat]
    cases hu : mvIsL u with
    | true =>
      rw [hu] at h
      rw [if_pos (mvIsL_cat.mp hu)]
      match i, h with
      | 0, h =>
        cases h
        exact List.mem_cons_self
      | 1, h =>
        cases h
        cases hd
      | i + 2, h =>
        have h : (mvFA t)[i]? = some v := h
        refine List.mem_cons_of_mem _ ?_
        have := ih (j + 2) i v h hd
        rw [show j + 2 + i = j + (i + 2) by omega] at this
        exact this
    | false =>
      rw [hu] at h
      rw [if_neg (fun z => by rw [mvIsL_cat.mpr z] at hu; cases hu)]
      match i, h with
      | 0, h =>
        cases h
        exact List.mem_cons_self
      | i + 1, h =>
        have h : (mvFA t)[i]? = some v := h
        refine List.mem_cons_of_mem _ ?_
        have := ih (j + 1) i v h hd
        rw [show j + 1 + i = j + (i + 1) by omega] at this
        exact this
theorem mv_entry (E : mvE) {as : List Value} {n : Nat} (h : (mvLs n as).length = n) : mvLR E ((lg_sl (as.map (mvTv E)) ++ List.replicate (n - (lg_sl (as.map (mvTv E))).length) Slot.unset).toArray) (mvLs n as) n := by
  have hl : (mvFA as).length ≤ n := by
    rw [mvLs_eq, List.length_append, List.length_replicate] at h
    omega
  refine mvLR.of (lv_entry (as.map (mvTv E)) (by rw [mvFA_len]; exact hl)) h fun i v hv hd => ?_
  rw [mvLs_eq] at hv
  by_cases hi : i < (mvFA as).length
  · rw [List.getElem?_append_left hi] at hv
    have := mvFA_at E as 0 i v hv hd
    rwa [Nat.zero_add] at this
  · rw [List.getElem?_append_right (by omega)] at hv
    have := List.mem_of_getElem? hv
    rw [List.eq_of_mem_replicate this] at hd
    cases hd
theorem mv_runmono : ∀ (n d k pc : Nat) (L st : List Value) (σ : mvSt) (r : Option Value × mvSt), mvRun n d k pc L st σ = some r → σ.1.1 ≤ r.2.1.1 ∧ σ.1.2.1 ≤ r.2.1.2.1 := by
  intro n
  induction n with
  | zero => intro d k pc L st σ r h; cases h
  | succ n ih =>
    intro d k pc L st σ r h
    rw [mvRun] at h
    split at h
    · cases h
    · next pc' L' st' σ' hs =>
      have h1 := mv_mono hs
      have h2 := ih _ _ _ _ _ _ _ h
      dsimp only at h1
      exact ⟨Nat.le_trans h1.1 h2.1, Nat.le_trans h1.2 h2.2⟩
    · next q hs =>
      have : q.2 = σ := by
        unfold mvStep at hs
        split at hs
        next ins len im a b w hC =>
        rcases mvX_kind k pc ins im a b L st σ with g | ⟨g, -⟩ | ⟨e, g⟩ | ⟨e, g⟩ | ⟨e, g⟩ | ⟨e, g⟩
        · obtain ⟨q', e1, e2⟩ := g _ hs
          cases e1
        · rw [g] at hs
          obtain ⟨as, rest, e1, -⟩ := mvCall_inv hs
          cases e1
        · rw [g] at hs
          obtain ⟨v, ty, e1, -⟩ := mvIret_inv hs
          cases e1
          rfl
        · rw [g] at hs
          obtain ⟨v, e1, -⟩ := mvLret_inv hs
          cases e1
          rfl
        · rw [g] at hs
          obtain ⟨v, n, -, e1, -⟩ := mvAret_inv hs
          cases e1
          rfl
        · rw [g] at hs
          obtain ⟨e1, -⟩ := mvVret_inv hs
          cases e1
          rfl
      have e9 : q = r := Option.some.inj h
      rw [← e9, this]
      exact ⟨Nat.le_refl _, Nat.le_refl _⟩
    · next y as rest hs =>
      split at h
      · cases h
      · split at h
        · cases h
        · next v σ' hc =>
          have h1 := ih _ _ _ _ _ _ _ hc
          have h2 := ih _ _ _ _ _ _ _ h
          dsimp only at h1
          exact ⟨Nat.le_trans h1.1 h2.1, Nat.le_trans h1.2 h2.2⟩
/-- what is shown of runs of n steps -/
def mvP (E : mvE) (n : Nat) : Prop := ∀ (d k pc : Nat) (L st : List Value) (σ : mvSt) (r : Option Value × mvSt), k < mvN → mvRun n d k pc L st σ = some r →
  ∀ (p : Program) (l : Launch) (e : Env) (R : Room) (s : State) (m : MethodId) (args : Array Value) (below : List Frame) (meth : Method) (c : Code) (Q : State → Prop) (cells slots : Nat), mvCx E k p s m args meth c → d + 1 ≤ R.frames → 100 * (d + 1) ≤ R.locals →
    cells + (r.2.1.1 - σ.1.1) ≤ R.cells → slots + (r.2.1.2.1 - σ.1.2.1) ≤ R.slots →
    (∀ (H : Heap) (locs : List Loc) (ls : Array Slot) (pc' : Nat), mvWorld E r.2 H → (∀ q ∈ locs, (mvH E).size ≤ q.base) → mvRf k pc' r.1 → W p l e R s m args below meth c H locs (cells + (r.2.1.1 - σ.1.1)) (slots + (r.2.1.2.1 - σ.1.2.1)) Q (F0 m pc' ls (r.1.toList.map (mvTv E)))) →
    mvG E k p l e R s m args below meth c Q cells slots pc L st σ
theorem mv_kd {k : Nat} (hk : k < mvN) : (mvT k).2.2.2.2.1 = 2 → (mvT k).1.name = "<init>" := by
  intro h
  by_cases h0 : 0 < k
  · obtain ⟨-, -, -, -, -, -, -, hT⟩ := mvOkT_all (mv_okT k hk h0)
    rcases hT with ⟨z, -⟩ | ⟨z, -⟩ | ⟨-, -, z, -⟩
    · omega
    · omega
    · exact z
  · have : k = 0 := by omega
    subst this
    exact absurd h (by decide)
theorem mv_met_of {E : mvE} {n : Nat} (IH : mvP E n) (l : Launch) {d a : Nat} {as : List Value} {σ : mvSt} {r : Option Value × mvSt} (ha : a < mvN) (ha0 : 0 < a) (hll : (mvLs (mvT a).2.2.1 as).length = (mvT a).2.2.1) (h : mvRun n d a 0 (mvLs (mvT a).2.2.1 as) [] σ = some r) :
    Met l (mvT a).1 (mvMw a) (mvRm d (r.2.1.1 - σ.1.1) (r.2.1.2.1 - σ.1.2.1)) (mvPc E as σ) (mvQc E r) (r.2.1.1 - σ.1.1) (r.2.1.2.1 - σ.1.2.1) (fun q => (mvH E).size ≤ q) := by
  obtain ⟨-, -, -, -, hpl, -, -, -⟩ := mvOkT_all (mv_okT a ha ha0)
  refine Met.ofW (cc := (mvT a).2.1) (maxL := (mvT a).2.2.1) (ret := (mvT a).2.2.2.1) hpl rfl ?_
  intro p e s m args below meth c s₁ B hml hv
  obtain ⟨rfl, hW, hK⟩ := hv
  have hts := atoms_spec (ws := mvMw a) B.pre
  have hlocks := B.notSynchronized
  have hr := B.returns
  have X : mvCx E a p s m (as.map (mvTv E)).toArray meth c := ⟨B.exec, B.bytes, hml, findClass_of_methodNamed B.named, fun w hw => hts w (List.mem_cons_of_mem _ hw), fun _ => (name_of_methodNamed B.named B.method).1, hK⟩
  rw [lg_entry_eq]
  have G := IH d a 0 _ [] σ r ha h p l e (headSpec (mvMw a) (mvRm d (r.2.1.1 - σ.1.1) (r.2.1.2.1 - σ.1.2.1))).room s m (as.map (mvTv E)).toArray below meth c (MQ below (mvQc E r) (as.map (mvTv E)).toArray s (r.2.1.1 - σ.1.1) (r.2.1.2.1 - σ.1.2.1) (fun q => (mvH E).size ≤ q)) 0 0 X (Nat.le_refl _) (Nat.le_refl _) (by show 0 + _ ≤ r.2.1.1 - σ.1.1; omega) (by show 0 + _ ≤ r.2.1.2.1 - σ.1.2.1; omega) ?_
  · exact G s.heap [] _ hW (mv_entry E hll) (fun q hq => by cases hq)
  · intro H locs ls pc' hW' hlo hrf
    refine W.cs (Nat.zero_add _) (Nat.zero_add _) ?_
    rcases hrf with ⟨x, ty, e1, hd, e2, e3⟩ | ⟨x, e1, hd, e2⟩ | ⟨x, nm, e1, hx, hd, e2⟩ | ⟨e1, hd, e2⟩
    · rw [e1]
      exact W.zret X.1 X.2.1 (hr.trans e2) e3 (fun t ht hWm => ⟨by rw [e1]; rfl, by rw [ht]; exact hW'⟩) hlo hd hlocks
    · rw [e1]
      exact W.lret X.1 X.2.1 (hr.trans e2) (fun t ht hWm => ⟨by rw [e1]; rfl, by rw [ht]; exact hW'⟩) hlo hd hlocks
    · rw [e1]
      exact W.aret X.1 X.2.1 (hr.trans e2) (Or.inl ⟨nm, rfl⟩) (mo_rf hx) (fun t ht hWm => ⟨by rw [e1]; rfl, by rw [ht]; exact hW'⟩) hlo hd hlocks
    · rw [e1]
      exact W.vret X.1 X.2.1 (hr.trans e2) (fun t ht hWm => ⟨by rw [e1]; rfl, by rw [ht]; exact hW'⟩) hlo hd hlocks
theorem mv_haN1 {k pc i a b w : Nat} {im : Int} (hok : mvOk1 k pc (.invokestatic i) im a b w = true) (hb : b ≠ 2 ∧ b ≠ 4 ∧ b ≠ 5 ∧ b ≠ 6 ∧ b ≠ 7) : a < mvN := by
  have hok : (bif Nat.beq b 2 then mvWd w (.methodLink (mvT k).1.cls i arraycopyName) else bif Nat.beq b 4 then mvWd w (.methodLink (mvT k).1.cls i Lib.Math.max.name) else bif Nat.beq b 5 then mvWd w (.methodLink (mvT k).1.cls i Lib.Math.min.name) else bif Nat.beq b 6 then mvWd w (.methodLink (mvT k).1.cls i Lib.MathLoose.max_long.x) else bif Nat.beq b 7 then mvWd w (.methodLink (mvT k).1.cls i Lib.MathLoose.min_long.x) else (Nat.blt a mvN && Nat.beq (mvT a).2.2.2.2.1 0 && (mvWd w (.methodLink (mvT k).1.cls i (mvT a).1) || mvWd w (.methodLinkNest (mvT k).1.cls i (mvT a).1 mvHo)))) = true := hok
  have f : ∀ n, b ≠ n → Nat.beq b n = false := fun n hn => by
    cases hq : Nat.beq b n with
    | false => rfl
    | true => exact absurd (Nat.eq_of_beq_eq_true hq) hn
  rw [f 2 hb.1, f 4 hb.2.1, f 5 hb.2.2.1, f 6 hb.2.2.2.1, f 7 hb.2.2.2.2] at hok
  simp only [cond_false, Bool.and_eq_true] at hok
  exact Nat.blt_eq.mp hok.1.1
theorem mv_haN2 {k pc i a b w : Nat} {im : Int} (hok : mvOk1 k pc (.invokespecial i) im a b w = true) (hb : b ≠ 3) : a < mvN := by
  have hok : (bif Nat.beq b 3 then mvWd w (.methodLink (mvT k).1.cls i Lib.objectInit) else (Nat.blt a mvN && Nat.beq (mvT a).2.2.2.2.1 2 && (mvWd w (.methodLink (mvT k).1.cls i (mvT a).1) || mvWd w (.methodLinkNest (mvT k).1.cls i (mvT a).1 mvHo)))) = true := hok
  have f : Nat.beq b 3 = false := by
    cases hq : Nat.beq b 3 with
    | false => rfl
    | true => exact absurd (Nat.eq_of_beq_eq_true hq) hb
  rw [f] at hok
  simp only [cond_false, Bool.and_eq_true] at hok
  exact Nat.blt_eq.mp hok.1.1
theorem mv_sound (E : mvE) : ∀ n, mvP E n := by
  intro n
  induction n with
  | zero => intro d k pc L st σ r hk h; cases h
  | succ n ih =>
    intro d k pc L st σ r hk h p l e R s m args below meth c Q cells slots X hfr hlc hc hs hret
    rw [mvRun] at h
    split at h
    · cases h
    · next pc' L' st' σ' hst =>
      have h1 := mv_mono hst
      have h2 := mv_runmono _ _ _ _ _ _ _ _ h
      dsimp only at h1
      have e1 : cells + (σ'.1.1 - σ.1.1) + (r.2.1.1 - σ'.1.1) = cells + (r.2.1.1 - σ.1.1) := by omega
      have e2 : slots + (σ'.1.2.1 - σ.1.2.1) + (r.2.1.2.1 - σ'.1.2.1) = slots + (r.2.1.2.1 - σ.1.2.1) := by omega
      refine mv_step (q := (pc', L', st', σ')) X hk (mv_kd hk) hst (by omega) (by omega) (by dsimp only; omega) (by dsimp only; omega) ?_
      refine ih d k pc' L' st' σ' r hk h p l e R s m args below meth c Q _ _ X hfr hlc (by dsimp only; omega) (by dsimp only; omega) ?_
      dsimp only
      rw [e1, e2]
      exact hret
    · next q hst =>
      cases h
      obtain ⟨e1, e2, e3⟩ := mv_answer hk hst
      intro H locs ls hW hL hlo
      have := hret H locs ls pc (by rw [e1]; exact hW) hlo e3
      rw [e1, Nat.sub_self, Nat.sub_self] at this
      rw [e2]
      exact this
    · next y as rest hst =>
      match d, h, hfr, hlc with
      | 0, h, _, _ => cases h
      | d + 1, h, hfr, hlc =>
        dsimp only at h
        split at h
        · cases h
        · next v σ' hcl =>
          have h1 := mv_runmono _ _ _ _ _ _ _ _ hcl
          have h2 := mv_runmono _ _ _ _ _ _ _ _ h
          dsimp only at h1
          have e1 : cells + (σ'.1.1 - σ.1.1) + (r.2.1.1 - σ'.1.1) = cells + (r.2.1.1 - σ.1.1) := by omega
          have e2 : slots + (σ'.1.2.1 - σ.1.2.1) + (r.2.1.2.1 - σ'.1.2.1) = slots + (r.2.1.2.1 - σ.1.2.1) := by omega
          unfold mvStep at hst
          split at hst
          next ins len im a b w hC =>
          have hcall : mvX k pc ins im a b L st σ = mvCall a st σ ∧ ((∃ i, ins = .invokevirtual i) ∨ (∃ i, ins = .invokestatic i ∧ b ≠ 2 ∧ b ≠ 4 ∧ b ≠ 5 ∧ b ≠ 6 ∧ b ≠ 7) ∨ (∃ i, ins = .invokespecial i ∧ b ≠ 3)) := by
            rcases mvX_kind k pc ins im a b L st σ with g | g | ⟨-, g⟩ | ⟨-, g⟩ | ⟨-, g⟩ | ⟨-, g⟩
            · obtain ⟨q', z, -⟩ := g _ hst
              cases z
            · exact g
            · rw [g] at hst
              obtain ⟨v, ty, z, -⟩ := mvIret_inv hst
              cases z
            · rw [g] at hst
              obtain ⟨v, z, -⟩ := mvLret_inv hst
              cases z
            · rw [g] at hst
              obtain ⟨v, n, -, z, -⟩ := mvAret_inv hst
              cases z
            · rw [g] at hst
              obtain ⟨z, -⟩ := mvVret_inv hst
              cases z
          rw [hcall.1] at hst
          obtain ⟨as', rest', z, ha0, hll, -, -⟩ := mvCall_inv hst
          cases z
          have hne : ins ≠ .nop := by
            rcases hcall.2 with ⟨i, rfl⟩ | ⟨i, rfl, -⟩ | ⟨i, rfl, -⟩ <;> intro z <;> cases z
          obtain ⟨⟨len', hd, hlen⟩, hok⟩ := mv_spec hk hC hne
          have hins : ∃ i, (ins = .invokevirtual i ∨ (ins = .invokestatic i ∧ b ≠ 2 ∧ b ≠ 4 ∧ b ≠ 5 ∧ b ≠ 6 ∧ b ≠ 7) ∨ (ins = .invokespecial i ∧ b ≠ 3)) ∧ mvLen ins = 3 := by
            rcases hcall.2 with ⟨i, rfl⟩ | ⟨i, rfl, z⟩ | ⟨i, rfl, z⟩
            · exact ⟨i, Or.inl rfl, rfl⟩
            · exact ⟨i, Or.inr (Or.inl ⟨rfl, z⟩), rfl⟩
            · exact ⟨i, Or.inr (Or.inr ⟨rfl, z⟩), rfl⟩
          obtain ⟨i, hins, hl3⟩ := hins
          have haN : y < mvN := by
            rcases hins with rfl | ⟨rfl, hb⟩ | ⟨rfl, hb⟩
            · have hok : (Nat.blt y mvN && Nat.beq (mvT y).2.2.2.2.1 1 && (mvWd w (.methodLink (mvT k).1.cls i (mvT y).1) || mvWd w (.methodLinkNest (mvT k).1.cls i (mvT y).1 mvHo))) = true := hok
              simp only [Bool.and_eq_true] at hok
              exact Nat.blt_eq.mp hok.1.1
            · exact mv_haN1 hok hb
            · exact mv_haN2 hok hb
          refine mv_callG X (mv_dec hd hlen hl3) hok hins hst ⟨by omega, by omega⟩ (by dsimp only; omega) (by dsimp only; omega) (mv_met_of ih l haN ha0 hll hcl) ?_
          refine ih (d + 1) k (pc + 3) L _ σ' r hk h p l e R s m args below meth c Q _ _ X hfr hlc (by dsimp only; omega) (by dsimp only; omega) ?_
          dsimp only
          rw [e1, e2]
          exact hret
