/-! inversions -/
theorem mv_cat1 {E : mvE} {v : Value} (h : mvIsL v = false) : (mvTv E v).category = 1 := by
  rw [mvTv_cat]
  cases v <;> first | rfl | cases h
theorem mv_beq2 {x a b : Nat} (h : (Nat.beq x a || Nat.beq x b) = true) : x = a ∨ x = b := by
  rw [Bool.or_eq_true] at h
  exact h.imp Nat.eq_of_beq_eq_true Nat.eq_of_beq_eq_true
theorem mv_01 {v : Int32} (h : (decide (v = 0) || decide (v = 1)) = true) : v = 0 ∨ v = 1 := by
  rw [Bool.or_eq_true] at h
  exact h.imp of_decide_eq_true of_decide_eq_true
theorem mvIald_inv {pc : Nat} {L st : List Value} {σ : mvSt} {q : mvQ} (h : mvIald pc L st σ = some (.inl q)) : ∃ i o r, st = .int i :: .ref o :: r ∧ ((σ.1.2.2 o).1 = 20 ∨ (σ.1.2.2 o).1 = 25) ∧ ¬ (i < 0 ∨ (σ.1.2.2 o).2 ≤ i.toNatClampNeg) ∧ q = (pc, L, .int (σ.2.1 o i.toNatClampNeg) :: r, σ) := by
  unfold mvIald at h
  split at h
  · next i o r =>
    obtain ⟨h1, h2⟩ := mvCond_inv h
    rw [Bool.and_eq_true] at h1
    exact ⟨i, o, r, rfl, mv_beq2 h1.1, mvIn_spec h1.2, mvGo_inv h2⟩
  · cases h
theorem mvBald_inv {pc : Nat} {L st : List Value} {σ : mvSt} {q : mvQ} (h : mvBald pc L st σ = some (.inl q)) : ∃ i o r, st = .int i :: .ref o :: r ∧ ((σ.1.2.2 o).1 = 22 ∨ (σ.1.2.2 o).1 = 24) ∧ ¬ (i < 0 ∨ (σ.1.2.2 o).2 ≤ i.toNatClampNeg) ∧ q = (pc, L, .int (σ.2.1 o i.toNatClampNeg) :: r, σ) := by
  unfold mvBald at h
  split at h
  · next i o r =>
    obtain ⟨h1, h2⟩ := mvCond_inv h
    rw [Bool.and_eq_true] at h1
    exact ⟨i, o, r, rfl, mv_beq2 h1.1, mvIn_spec h1.2, mvGo_inv h2⟩
  · cases h
theorem mvLald_inv {pc : Nat} {L st : List Value} {σ : mvSt} {q : mvQ} (h : mvLald pc L st σ = some (.inl q)) : ∃ i o r, st = .int i :: .ref o :: r ∧ (σ.1.2.2 o).1 = 21 ∧ ¬ (i < 0 ∨ (σ.1.2.2 o).2 ≤ i.toNatClampNeg) ∧ q = (pc, L, .long (σ.2.2.1 o i.toNatClampNeg) :: r, σ) := by
  unfold mvLald at h
  split at h
  · next i o r =>
    obtain ⟨h1, h2⟩ := mvCond_inv h
    rw [Bool.and_eq_true] at h1
    exact ⟨i, o, r, rfl, Nat.eq_of_beq_eq_true h1.1, mvIn_spec h1.2, mvGo_inv h2⟩
  · cases h
theorem mvAald_inv {pc : Nat} {L st : List Value} {σ : mvSt} {q : mvQ} (h : mvAald pc L st σ = some (.inl q)) : ∃ i o r, st = .int i :: .ref o :: r ∧ (σ.1.2.2 o).1 = 23 ∧ ¬ (i < 0 ∨ (σ.1.2.2 o).2 ≤ i.toNatClampNeg) ∧ q = (pc, L, mvRv (σ.2.2.2 o i.toNatClampNeg) :: r, σ) := by
  unfold mvAald at h
  split at h
  · next i o r =>
    obtain ⟨h1, h2⟩ := mvCond_inv h
    rw [Bool.and_eq_true] at h1
    exact ⟨i, o, r, rfl, Nat.eq_of_beq_eq_true h1.1, mvIn_spec h1.2, mvGo_inv h2⟩
  · cases h
theorem mvIast_inv {pc : Nat} {L st : List Value} {σ : mvSt} {q : mvQ} (h : mvIast pc L st σ = some (.inl q)) : ∃ v i o r, st = .int v :: .int i :: .ref o :: r ∧ (σ.1.2.2 o).1 = 20 ∧ ¬ (i < 0 ∨ (σ.1.2.2 o).2 ≤ i.toNatClampNeg) ∧ q = (pc, L, r, (σ.1, mvPut σ.2.1 o i.toNatClampNeg v, σ.2.2)) := by
  unfold mvIast at h
  split at h
  · next v i o r =>
    obtain ⟨h1, h2⟩ := mvCond_inv h
    rw [Bool.and_eq_true] at h1
    exact ⟨v, i, o, r, rfl, Nat.eq_of_beq_eq_true h1.1, mvIn_spec h1.2, mvGo_inv h2⟩
  · cases h
theorem mvLast_inv {pc : Nat} {L st : List Value} {σ : mvSt} {q : mvQ} (h : mvLast pc L st σ = some (.inl q)) : ∃ v i o r, st = .long v :: .int i :: .ref o :: r ∧ (σ.1.2.2 o).1 = 21 ∧ ¬ (i < 0 ∨ (σ.1.2.2 o).2 ≤ i.toNatClampNeg) ∧ q = (pc, L, r, (σ.1, σ.2.1, mvPut σ.2.2.1 o i.toNatClampNeg v, σ.2.2.2)) := by
  unfold mvLast at h
  split at h
  · next v i o r =>
    obtain ⟨h1, h2⟩ := mvCond_inv h
    rw [Bool.and_eq_true] at h1
    exact ⟨v, i, o, r, rfl, Nat.eq_of_beq_eq_true h1.1, mvIn_spec h1.2, mvGo_inv h2⟩
  · cases h
theorem mvBast_inv {pc : Nat} {L st : List Value} {σ : mvSt} {q : mvQ} (h : mvBast pc L st σ = some (.inl q)) : ∃ v i o r, st = .int v :: .int i :: .ref o :: r ∧ (σ.1.2.2 o).1 = 22 ∧ ¬ (i < 0 ∨ (σ.1.2.2 o).2 ≤ i.toNatClampNeg) ∧ (v = 0 ∨ v = 1) ∧ q = (pc, L, r, (σ.1, mvPut σ.2.1 o i.toNatClampNeg v, σ.2.2)) := by
  unfold mvBast at h
  split at h
  · next v i o r =>
    obtain ⟨h1, h2⟩ := mvCond_inv h
    rw [Bool.and_eq_true, Bool.and_eq_true] at h1
    exact ⟨v, i, o, r, rfl, Nat.eq_of_beq_eq_true h1.1.1, mvIn_spec h1.1.2, mv_01 h1.2, mvGo_inv h2⟩
  · cases h
theorem mvAast_inv {pc : Nat} {L st : List Value} {σ : mvSt} {q : mvQ} (h : mvAast pc L st σ = some (.inl q)) : ∃ v i o r, st = .ref v :: .int i :: .ref o :: r ∧ (σ.1.2.2 o).1 = 23 ∧ ¬ (i < 0 ∨ (σ.1.2.2 o).2 ≤ i.toNatClampNeg) ∧ (σ.1.2.2 v).1 = 10 ∧ q = (pc, L, r, (σ.1, σ.2.1, σ.2.2.1, mvPut σ.2.2.2 o i.toNatClampNeg (some v))) := by
  unfold mvAast at h
  split at h
  · next v i o r =>
    obtain ⟨h1, h2⟩ := mvCond_inv h
    rw [Bool.and_eq_true, Bool.and_eq_true] at h1
    exact ⟨v, i, o, r, rfl, Nat.eq_of_beq_eq_true h1.1.1, mvIn_spec h1.1.2, Nat.eq_of_beq_eq_true h1.2, mvGo_inv h2⟩
  · cases h
theorem mvAlen_inv {pc : Nat} {L st : List Value} {σ : mvSt} {q : mvQ} (h : mvAlen pc L st σ = some (.inl q)) : ∃ o r, st = .ref o :: r ∧ (20 ≤ (σ.1.2.2 o).1 ∧ (σ.1.2.2 o).1 ≤ 25) ∧ q = (pc, L, .int (nI (σ.1.2.2 o).2) :: r, σ) := by
  unfold mvAlen at h
  split at h
  · next o r =>
    obtain ⟨h1, h2⟩ := mvCond_inv h
    rw [Bool.and_eq_true] at h1
    exact ⟨o, r, rfl, ⟨Nat.le_of_ble_eq_true h1.1, Nat.le_of_ble_eq_true h1.2⟩, mvGo_inv h2⟩
  · cases h
theorem mvNewA_inv {pc tag : Nat} {L st : List Value} {σ : mvSt} {q : mvQ} (h : mvNewA pc tag L st σ = some (.inl q)) : ∃ n r, st = .int n :: r ∧ ¬ n < 0 ∧ n.toNatClampNeg < 65536 ∧ q = (pc, L, .ref σ.1.1 :: r, mvMake σ tag n.toNatClampNeg n.toNatClampNeg) := by
  unfold mvNewA at h
  split at h
  · next n r =>
    cases hb : (decide (n < 0) || Nat.ble 65536 n.toNatClampNeg) with
    | true => rw [hb] at h; cases h
    | false =>
      rw [hb] at h
      rw [Bool.or_eq_false_iff] at hb
      refine ⟨n, r, rfl, of_decide_eq_false hb.1, Nat.not_le.mp fun z => ?_, mvGo_inv h⟩
      rw [Nat.ble_eq_true_of_le z] at hb
      cases hb.2
  · cases h
theorem mvCall_go (a : Nat) {st : List Value} {σ : mvSt} {q : mvQ} : ¬ mvCall a st σ = some (.inl q) := by
  intro h
  unfold mvCall at h
  split at h
  obtain ⟨-, h⟩ := mvCond_inv h
  split at h
  · cases h
  · split at h
    · obtain ⟨-, h⟩ := mvCond_inv h
      cases h
    · cases h
theorem mvRet_go {v : Option Value} {σ : mvSt} {q : mvQ} : ¬ mvRet v σ = some (.inl q) := fun h => by cases h
section MI
variable {p : Program} {l : Launch} {e : Env} {R : Room} {s : State} {m : MethodId} {args : Array Value} {below : List Frame} {meth : Method} {c : Code} {Q : State → Prop} {E : mvE} {k : Nat}
variable {cells slots pc : Nat} {L st : List Value} {σ : mvSt}
theorem mvG_0 {x y : Nat} (G : mvG E k p l e R s m args below meth c Q (cells + (x - x)) (slots + (y - y)) pc L st σ) : mvG E k p l e R s m args below meth c Q cells slots pc L st σ := by
  rw [Nat.sub_self, Nat.sub_self] at G
  exact G
theorem mv_made {tag size w : Nat} {pc' : Nat} {L' st' : List Value} (hc : cells + ((mvMake σ tag size w).1.1 - σ.1.1) ≤ R.cells) (hs : slots + ((mvMake σ tag size w).1.2.1 - σ.1.2.1) ≤ R.slots) (G : mvG E k p l e R s m args below meth c Q (cells + ((mvMake σ tag size w).1.1 - σ.1.1)) (slots + ((mvMake σ tag size w).1.2.1 - σ.1.2.1)) pc' L' st' (mvMake σ tag size w)) :
    cells + 1 ≤ R.cells ∧ slots + w ≤ R.slots ∧ mvG E k p l e R s m args below meth c Q (cells + 1) (slots + w) pc' L' st' (mvMake σ tag size w) := by
  have e1 : (mvMake σ tag size w).1.1 - σ.1.1 = 1 := by show σ.1.1 + 1 - σ.1.1 = 1; omega
  have e2 : (mvMake σ tag size w).1.2.1 - σ.1.2.1 = w := by show σ.1.2.1 + w - σ.1.2.1 = w; omega
  rw [e1] at hc G
  rw [e2] at hs G
  exact ⟨hc, hs, G⟩
theorem mv_iret_go {st : List Value} {σ : mvSt} {q : mvQ} : ¬ mvIret k st σ = some (.inl q) := by
  intro h
  unfold mvIret at h
  split at h
  · split at h
    · exact mvRet_go h
    · obtain ⟨-, h⟩ := mvCond_inv h
      exact mvRet_go h
    · split at h
      · exact mvRet_go h
      · cases h
    · split at h
      · exact mvRet_go h
      · cases h
    · cases h
  · cases h
theorem mv_lret_go {st : List Value} {σ : mvSt} {q : mvQ} : ¬ mvLret k st σ = some (.inl q) := by
  intro h
  unfold mvLret at h
  split at h
  · exact mvRet_go h
  · cases h
theorem mv_aret_go {st : List Value} {σ : mvSt} {q : mvQ} : ¬ mvAret k st σ = some (.inl q) := by
  intro h
  unfold mvAret at h
  split at h
  · exact mvRet_go h
  · exact mvRet_go h
  · cases h
theorem mv_vret_go {st : List Value} {σ : mvSt} {q : mvQ} : ¬ mvVret k st σ = some (.inl q) := by
  intro h
  unfold mvVret at h
  split at h
  · exact mvRet_go h
  · cases h
theorem mv_nref {t : FieldType} {v : Value} (ht : t.isReference = true) (hv : v = .null ∨ ∃ a, v = .ref a) : narrow t v = v ∧ fits t v = true := by
  cases t <;> first | (rcases hv with rfl | ⟨a, rfl⟩ <;> exact ⟨rfl, rfl⟩) | cases ht
theorem mv_getf {q : mvQ} {i a b w : Nat} (X : mvCx E k p s m args meth c) (hd : decode (mvT k).2.1 pc = .ok (.getfield i, 3))
    (hok : (bif Nat.beq a 13 then (bif Nat.beq b 0 then mvWd w (.fieldLink (mvT k).1.cls i "java/lang/String" "value" "[B") else (Nat.beq b 1 && mvWd w (.fieldLink (mvT k).1.cls i "java/lang/String" "coder" "B")))
      else (Nat.blt a 13 && Nat.blt b (mvNf a) && (mvWd w (.fieldLink (mvT k).1.cls i (mvCn a) (mvF a b).2.1 (mvF a b).2.2.1) || mvWd w (.fieldLinkNest (mvT k).1.cls i (mvCn a) (mvF a b).2.1 (mvF a b).2.2.1 mvHo)))) = true)
    (h : mvGet (pc + 3) a b L st σ = some (.inl q)) (G : mvG E k p l e R s m args below meth c Q (cells + (q.2.2.2.1.1 - σ.1.1)) (slots + (q.2.2.2.1.2.1 - σ.1.2.1)) q.1 q.2.1 q.2.2.1 q.2.2.2) : mvG E k p l e R s m args below meth c Q cells slots pc L st σ := by
  unfold mvGet at h
  split at h
  · next o r =>
    obtain ⟨h1, h2⟩ := mvCond_inv h
    have ho := Nat.eq_of_beq_eq_true h1
    obtain rfl := mvGo_inv h2
    cases ha : Nat.beq a 13 with
    | true =>
      rw [ha] at hok
      have ha := Nat.eq_of_beq_eq_true ha
      subst ha
      cases hb : Nat.beq b 0 with
      | true =>
        rw [hb] at hok
        have hb := Nat.eq_of_beq_eq_true hb
        subst hb
        exact mo_getS X hd ho (Or.inl ⟨rfl, hok⟩) (mvG_0 G)
      | false =>
        rw [hb] at hok
        have hok : (Nat.beq b 1 && mvWd w (.fieldLink (mvT k).1.cls i "java/lang/String" "coder" "B")) = true := hok
        rw [Bool.and_eq_true] at hok
        have hb := Nat.eq_of_beq_eq_true hok.1
        subst hb
        exact mo_getS X hd ho (Or.inr ⟨by decide, rfl, hok.2⟩) (mvG_0 G)
    | false =>
      rw [ha] at hok
      have hok : (Nat.blt a 13 && Nat.blt b (mvNf a) && (mvWd w (.fieldLink (mvT k).1.cls i (mvCn a) (mvF a b).2.1 (mvF a b).2.2.1) || mvWd w (.fieldLinkNest (mvT k).1.cls i (mvCn a) (mvF a b).2.1 (mvF a b).2.2.1 mvHo))) = true := hok
      simp only [Bool.and_eq_true, Bool.or_eq_true] at hok
      exact mo_get X hd ho (Nat.blt_eq.mp hok.1.1) (Nat.blt_eq.mp hok.1.2) hok.2 (mvG_0 G)
  · cases h
theorem mv_putf {q : mvQ} {i a b w : Nat} (X : mvCx E k p s m args meth c) (hkd : (mvT k).2.2.2.2.1 = 2 → (mvT k).1.name = "<init>") (hd : decode (mvT k).2.1 pc = .ok (.putfield i, 3))
    (hok : (Nat.blt a 13 && Nat.blt b (mvNf a) && ((!(mvF a b).2.2.2 && (mvWd w (.fieldLink (mvT k).1.cls i (mvCn a) (mvF a b).2.1 (mvF a b).2.2.1) || mvWd w (.fieldLinkNest (mvT k).1.cls i (mvCn a) (mvF a b).2.1 (mvF a b).2.2.1 mvHo)))
      || ((mvF a b).2.2.2 && Nat.beq (mvT k).2.2.2.2.1 2 && decide ((mvT k).1.cls = mvCn a) && mvWd w (.fieldLink (mvT k).1.cls i (mvCn a) (mvF a b).2.1 (mvF a b).2.2.1)))) = true)
    (h : mvPutf (pc + 3) a b L st σ = some (.inl q)) (G : mvG E k p l e R s m args below meth c Q (cells + (q.2.2.2.1.1 - σ.1.1)) (slots + (q.2.2.2.1.2.1 - σ.1.2.1)) q.1 q.2.1 q.2.2.1 q.2.2.2) : mvG E k p l e R s m args below meth c Q cells slots pc L st σ := by
  simp only [Bool.and_eq_true, Bool.or_eq_true, Bool.not_eq_true'] at hok
  obtain ⟨⟨ha, hb⟩, hl⟩ := hok
  have ha := Nat.blt_eq.mp ha
  have hb := Nat.blt_eq.mp hb
  have hfd := mv_fld ha hb
  have hl2 : ((mvF a b).2.2.2 = false ∧ (mvWd w (.fieldLink (mvT k).1.cls i (mvCn a) (mvF a b).2.1 (mvF a b).2.2.1) = true ∨ mvWd w (.fieldLinkNest (mvT k).1.cls i (mvCn a) (mvF a b).2.1 (mvF a b).2.2.1 mvHo) = true))
      ∨ ((mvF a b).2.2.2 = true ∧ ((mvT k).2.2.2.2.1 = 2 ∧ (mvT k).1.name = "<init>") ∧ (mvT k).1.cls = mvCn a ∧ mvWd w (.fieldLink (mvT k).1.cls i (mvCn a) (mvF a b).2.1 (mvF a b).2.2.1) = true) := by
    rcases hl with hl | hl
    · exact Or.inl hl
    · exact Or.inr ⟨hl.1.1.1, ⟨Nat.eq_of_beq_eq_true hl.1.1.2, hkd (Nat.eq_of_beq_eq_true hl.1.1.2)⟩, of_decide_eq_true hl.1.2, hl.2⟩
  have nx : ∀ {α : Type} (h : Nat → Nat → α) (o d : Nat) (v : α), d ≠ b → mvPut h o b v o d = h o d := by
    intro α h o d v hne
    rw [mo_mput_self]
    exact if_neg hne
  have ns : ∀ {α : Type} (h : Nat → Nat → α) (o : Nat) (v : α), mvPut h o b v o b = v := by
    intro α h o v
    rw [mo_mput_self]
    exact if_pos rfl
  unfold mvPutf at h
  split at h
  · next v o r hfk =>
    obtain ⟨h1, h2⟩ := mvCond_inv h
    obtain rfl := mvGo_inv h2
    have hty : gTy a b = .int := by
      rcases hfd.2.2.1 with ⟨z, t⟩ | ⟨z, t⟩ | ⟨z, t⟩ | ⟨z, t⟩
      · exact t
      all_goals rw [hfk] at z; cases z
    refine mo_put (v := .int v) (σ' := (σ.1, mvPut σ.2.1 o b v, σ.2.2)) X hd (Nat.eq_of_beq_eq_true h1) ha hb hl2 (by rw [hty]; rfl) (by rw [hty]; rfl) rfl (fun id hne => ⟨mo_mput_ne _ _ _ hne, rfl, rfl⟩) ?_ (fun d hd hne => ?_) (mvG_0 G)
    · unfold mvFv
      rw [hfk]
      exact congrArg Value.int (ns _ _ _)
    · unfold mvFv
      dsimp only
      rw [nx _ _ _ _ hne]
  · next v o r hfk =>
    obtain ⟨h1, h2⟩ := mvCond_inv h
    obtain rfl := mvGo_inv h2
    rw [Bool.and_eq_true] at h1
    have hty : gTy a b = .boolean := by
      rcases hfd.2.2.1 with ⟨z, t⟩ | ⟨z, t⟩ | ⟨z, t⟩ | ⟨z, t⟩
      · rw [hfk] at z; cases z
      · rw [hfk] at z; cases z
      · rw [hfk] at z; cases z
      · exact t
    refine mo_put (v := .int v) (σ' := (σ.1, mvPut σ.2.1 o b v, σ.2.2)) X hd (Nat.eq_of_beq_eq_true h1.1) ha hb hl2 (by rw [hty]; rcases mv_01 h1.2 with rfl | rfl <;> rfl) (by rw [hty]; rcases mv_01 h1.2 with rfl | rfl <;> rfl) rfl (fun id hne => ⟨mo_mput_ne _ _ _ hne, rfl, rfl⟩) ?_ (fun d hd hne => ?_) (mvG_0 G)
    · unfold mvFv
      rw [hfk]
      exact congrArg Value.int (ns _ _ _)
    · unfold mvFv
      dsimp only
      rw [nx _ _ _ _ hne]
  · next v o r hfk =>
    obtain ⟨h1, h2⟩ := mvCond_inv h
    obtain rfl := mvGo_inv h2
    have hty : gTy a b = .long := by
      rcases hfd.2.2.1 with ⟨z, t⟩ | ⟨z, t⟩ | ⟨z, t⟩ | ⟨z, t⟩
      · rw [hfk] at z; cases z
      · exact t
      · rw [hfk] at z; cases z
      · rw [hfk] at z; cases z
    refine mo_put (v := .long v) (σ' := (σ.1, σ.2.1, mvPut σ.2.2.1 o b v, σ.2.2.2)) X hd (Nat.eq_of_beq_eq_true h1) ha hb hl2 (by rw [hty]; rfl) (by rw [hty]; rfl) rfl (fun id hne => ⟨rfl, mo_mput_ne _ _ _ hne, rfl⟩) ?_ (fun d hd hne => ?_) (mvG_0 G)
    · unfold mvFv
      rw [hfk]
      exact congrArg Value.long (ns _ _ _)
    · unfold mvFv
      dsimp only
      rw [nx _ _ _ _ hne]
  · next v o r hfk =>
    obtain ⟨h1, h2⟩ := mvCond_inv h
    obtain rfl := mvGo_inv h2
    have hty : (gTy a b).isReference = true := by
      rcases hfd.2.2.1 with ⟨z, t⟩ | ⟨z, t⟩ | ⟨z, t⟩ | ⟨z, t⟩
      · rw [hfk] at z; cases z
      · rw [hfk] at z; cases z
      · exact t
      · rw [hfk] at z; cases z
    refine mo_put (v := .ref v) (σ' := (σ.1, σ.2.1, σ.2.2.1, mvPut σ.2.2.2 o b (some v))) X hd (Nat.eq_of_beq_eq_true h1) ha hb hl2 (mv_nref hty (mo_rf (Or.inr ⟨v, rfl⟩))).1 (mv_nref hty (mo_rf (Or.inr ⟨v, rfl⟩))).2 rfl (fun id hne => ⟨rfl, rfl, mo_mput_ne _ _ _ hne⟩) ?_ (fun d hd hne => ?_) (mvG_0 G)
    · unfold mvFv
      rw [hfk]
      exact congrArg mvRv (ns _ _ _)
    · unfold mvFv
      dsimp only
      rw [nx _ _ _ _ hne]
  · next o r hfk =>
    obtain ⟨h1, h2⟩ := mvCond_inv h
    obtain rfl := mvGo_inv h2
    have hty : (gTy a b).isReference = true := by
      rcases hfd.2.2.1 with ⟨z, t⟩ | ⟨z, t⟩ | ⟨z, t⟩ | ⟨z, t⟩
      · rw [hfk] at z; cases z
      · rw [hfk] at z; cases z
      · exact t
      · rw [hfk] at z; cases z
    refine mo_put (v := .null) (σ' := (σ.1, σ.2.1, σ.2.2.1, mvPut σ.2.2.2 o b none)) X hd (Nat.eq_of_beq_eq_true h1) ha hb hl2 (mv_nref hty (mo_rf (Or.inl rfl))).1 (mv_nref hty (mo_rf (Or.inl rfl))).2 rfl (fun id hne => ⟨rfl, rfl, mo_mput_ne _ _ _ hne⟩) ?_ (fun d hd hne => ?_) (mvG_0 G)
    · unfold mvFv
      rw [hfk]
      exact congrArg mvRv (ns _ _ _)
    · unfold mvFv
      dsimp only
      rw [nx _ _ _ _ hne]
  · cases h
theorem mv_gets {q : mvQ} {i a b w : Nat} {im : Int} (X : mvCx E k p s m args meth c) (hd : decode (mvT k).2.1 pc = .ok (.getstatic i, 3))
    (hok : ((Nat.beq b 0 && decide (im = 1) && mvWd w (.fieldLink (mvT k).1.cls i "java/lang/String" "COMPACT_STRINGS" "Z"))
      || (Nat.beq b 1 && Nat.beq a 1 && mvWd w (.fieldLinkNest (mvT k).1.cls i "MoonLodger" "NAME_LAWS" "[I" mvHo))
      || (Nat.beq b 2 && Nat.beq a 6 && mvWd w (.fieldLink (mvT k).1.cls i "jdk/internal/util/Preconditions" "SIOOBE_FORMATTER" "Ljava/util/function/BiFunction;"))) = true)
    (h : (bif Nat.beq b 0 then mvPush (pc + 3) (.int (Int32.ofInt im)) L st σ else mvPush (pc + 3) (.ref a) L st σ) = some (.inl q)) (G : mvG E k p l e R s m args below meth c Q (cells + (q.2.2.2.1.1 - σ.1.1)) (slots + (q.2.2.2.1.2.1 - σ.1.2.1)) q.1 q.2.1 q.2.2.1 q.2.2.2) : mvG E k p l e R s m args below meth c Q cells slots pc L st σ := by
  have hK := X.2.2.2.2.2.2
  simp only [Bool.and_eq_true, Bool.or_eq_true] at hok
  rcases hok with (⟨⟨hb, hi⟩, hl⟩ | ⟨⟨hb, ha⟩, hl⟩) | ⟨⟨hb, ha⟩, hl⟩
  · have hb := Nat.eq_of_beq_eq_true hb
    have hi := of_decide_eq_true hi
    subst hb hi
    obtain rfl := mvGo_inv h
    exact mo_gets (v := .int (Int32.ofInt 1)) X hd hl hK.2.2.2.2.2.2.2.2.2.2.2.1 (mvG_0 G)
  · have hb := Nat.eq_of_beq_eq_true hb
    have ha := Nat.eq_of_beq_eq_true ha
    subst hb ha
    obtain rfl := mvGo_inv h
    exact mo_getsN (v := .ref 1) X hd hl hK.2.2.2.2.2.2.2.2.2.2.2.2.1 (mvG_0 G)
  · have hb := Nat.eq_of_beq_eq_true hb
    have ha := Nat.eq_of_beq_eq_true ha
    subst hb ha
    obtain rfl := mvGo_inv h
    exact mo_gets (v := .ref 6) X hd hl hK.2.2.2.2.2.2.2.2.2.2.2.2.2.1 (mvG_0 G)
theorem mvM2_inv {f : Int32 → Int32 → Int32} {pc : Nat} {L st : List Value} {σ : mvSt} {q : mvQ} (h : mvM2 f pc L st σ = some (.inl q)) : ∃ x y r, st = .int y :: .int x :: r ∧ (r.map fun v => v.category).sum ≤ 8 ∧ q = (pc, L, .int (f x y) :: r, σ) := by
  unfold mvM2 at h
  split at h
  · next y x r =>
    obtain ⟨h1, h2⟩ := mvCond_inv h
    exact ⟨x, y, r, rfl, Nat.le_of_ble_eq_true h1, mvGo_inv h2⟩
  · cases h
theorem mvM2l_inv {f : Int64 → Int64 → Int64} {pc : Nat} {L st : List Value} {σ : mvSt} {q : mvQ} (h : mvM2l f pc L st σ = some (.inl q)) : ∃ x y r, st = .long y :: .long x :: r ∧ (r.map fun v => v.category).sum ≤ 8 ∧ q = (pc, L, .long (f x y) :: r, σ) := by
  unfold mvM2l at h
  split at h
  · next y x r =>
    obtain ⟨h1, h2⟩ := mvCond_inv h
    exact ⟨x, y, r, rfl, Nat.le_of_ble_eq_true h1, mvGo_inv h2⟩
  · cases h
theorem mv_stat {q : mvQ} {i a b w : Nat} {im : Int} (X : mvCx E k p s m args meth c) (hd : decode (mvT k).2.1 pc = .ok (.invokestatic i, 3)) (hok : mvOk1 k pc (.invokestatic i) im a b w = true)
    (h : mvX k pc (.invokestatic i) im a b L st σ = some (.inl q)) (hf : 1 ≤ R.frames) (hlo : 100 ≤ R.locals) (hc : cells ≤ R.cells) (hs : slots ≤ R.slots) (G : mvG E k p l e R s m args below meth c Q (cells + (q.2.2.2.1.1 - σ.1.1)) (slots + (q.2.2.2.1.2.1 - σ.1.2.1)) q.1 q.2.1 q.2.2.1 q.2.2.2) : mvG E k p l e R s m args below meth c Q cells slots pc L st σ := by
  match b, hok, h with
  | 2, hok, h =>
    have h : mvCopy (pc + 3) L st σ = some (.inl q) := h
    unfold mvCopy at h
    split at h
    · next n dp d sp o r =>
      obtain ⟨h1, h2⟩ := mvCond_inv h
      obtain rfl := mvGo_inv h2
      simp only [Bool.and_eq_true, Bool.not_eq_true', decide_eq_false_iff_not] at h1
      obtain ⟨⟨⟨⟨⟨⟨⟨g1, g2⟩, g3⟩, g4⟩, g5⟩, g6⟩, g7⟩, g8⟩ := h1
      exact mo_copy X hd hok (Nat.eq_of_beq_eq_true g1) (Nat.eq_of_beq_eq_true g2) g3 g4 g5 (Nat.le_of_ble_eq_true g6) (Nat.le_of_ble_eq_true g7) (Nat.le_of_ble_eq_true g8) hf hlo (mvG_0 G)
    · cases h
  | 4, hok, h =>
    obtain ⟨x, y, r, rfl, hr, rfl⟩ := mvM2_inv h
    exact mo_max X hd hok hr hf hlo hc hs (mvG_0 G)
  | 5, hok, h =>
    obtain ⟨x, y, r, rfl, hr, rfl⟩ := mvM2_inv h
    exact mo_min X hd hok hr hf hlo hc hs (mvG_0 G)
  | 6, hok, h =>
    obtain ⟨x, y, r, rfl, hr, rfl⟩ := mvM2l_inv h
    exact mo_maxl X hd hok hr hf hlo hc hs (mvG_0 G)
  | 7, hok, h =>
    obtain ⟨x, y, r, rfl, hr, rfl⟩ := mvM2l_inv h
    exact mo_minl X hd hok hr hf hlo hc hs (mvG_0 G)
  | 0, hok, h => exact absurd h (mvCall_go a)
  | 1, hok, h => exact absurd h (mvCall_go a)
  | 3, hok, h => exact absurd h (mvCall_go a)
  | n + 8, hok, h => exact absurd h (mvCall_go a)
theorem mv_spcl {q : mvQ} {i a b w : Nat} {im : Int} (X : mvCx E k p s m args meth c) (hd : decode (mvT k).2.1 pc = .ok (.invokespecial i, 3)) (hok : mvOk1 k pc (.invokespecial i) im a b w = true)
    (h : mvX k pc (.invokespecial i) im a b L st σ = some (.inl q)) (hf : 1 ≤ R.frames) (hlo : 100 ≤ R.locals) (G : mvG E k p l e R s m args below meth c Q (cells + (q.2.2.2.1.1 - σ.1.1)) (slots + (q.2.2.2.1.2.1 - σ.1.2.1)) q.1 q.2.1 q.2.2.1 q.2.2.2) : mvG E k p l e R s m args below meth c Q cells slots pc L st σ := by
  have hok : (bif Nat.beq b 3 then mvWd w (.methodLink (mvT k).1.cls i Lib.objectInit) else (Nat.blt a mvN && Nat.beq (mvT a).2.2.2.2.1 2 && (mvWd w (.methodLink (mvT k).1.cls i (mvT a).1) || mvWd w (.methodLinkNest (mvT k).1.cls i (mvT a).1 mvHo)))) = true := hok
  have h : (bif Nat.beq b 3 then mvObj (pc + 3) L st σ else mvCall a st σ) = some (.inl q) := h
  cases hb : Nat.beq b 3 with
  | true =>
    rw [hb] at h hok
    have h : mvObj (pc + 3) L st σ = some (.inl q) := h
    unfold mvObj at h
    split at h
    · next o r =>
      obtain ⟨h1, h2⟩ := mvCond_inv h
      obtain rfl := mvGo_inv h2
      rw [Bool.and_eq_true] at h1
      exact mo_obj X hd hok (Nat.le_of_ble_eq_true h1.1) (Nat.le_of_ble_eq_true h1.2) hf hlo (mvG_0 G)
    · cases h
  | false =>
    rw [hb] at h
    exact absurd h (mvCall_go a)
end MI
