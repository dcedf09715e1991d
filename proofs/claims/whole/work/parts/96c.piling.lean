/-! THE REFERENCE READS as pd says: asks, ones, all -/
/-- where reading stops -/
def sC (g c : Nat) : Prop := (g = 1 ∨ g = 2 → c ≠ 38 ∧ c ≠ 39) ∧ (3 ≤ g → c < 36 ∨ 39 < c) ∧ (5 ≤ g → g ≤ 8 → c ≠ 29) ∧ (g = 5 ∨ g = 6 → c ≠ 28)
def sQ (g c : Nat) : Prop := (g = 4 → c ≠ 38 ∧ c ≠ 39) ∧ (g = 6 → (c < 36 ∨ 39 < c) ∧ c ≠ 29) ∧ (g = 8 → c < 36 ∨ 39 < c)
theorem rB_inl {a : Option Rs} {g : (E1 → Int) → Nat → Option Rs} {f' : E1 → Int} {j' : Nat} (H : rB a g = some (.inl (f', j'))) : ∃ f j, a = some (.inl (f, j)) ∧ g f j = some (.inl (f', j')) := by
  rcases rB_cases H with h | ⟨c, j, _, h⟩
  · exact h
  · exact absurd h (by simp)
section KS
variable {law : Nat} {cd nm : Nat → Nat}
theorem pd_stop (m : Nat) : ∀ (g : Nat) (f : E1 → Int) (o i : Nat) (f' : E1 → Int) (j : Nat), g ≤ 9 → sQ g (cd i) → pd law cd nm m g f o i = some (.inl (f', j)) → sC g (cd j) := by
  induction m with
  | zero => intro g f o i f' j _ _ hp; rw [pd] at hp; exact absurd hp (by simp)
  | succ m ih =>
    intro g f o i f' j hg hq hp
    have h10 : g = 0 ∨ g = 1 ∨ g = 2 ∨ g = 3 ∨ g = 4 ∨ g = 5 ∨ g = 6 ∨ g = 7 ∨ g = 8 ∨ g = 9 := by omega
    rcases h10 with rfl | rfl | rfl | rfl | rfl | rfl | rfl | rfl | rfl | rfl
    · exact ⟨fun h => absurd h (by decide), fun h => absurd h (by decide), fun h => absurd h (by decide), fun h => absurd h (by decide)⟩
    · rw [pd] at hp
      obtain ⟨f1, j1, e1, e2⟩ := rB_inl hp
      have := ih 2 _ o j1 _ _ (by omega) (by unfold sQ; omega) e2
      unfold sC at this ⊢; omega
    · rw [pd] at hp
      split at hp
      · obtain ⟨f1, j1, e1, e2⟩ := rB_inl hp
        exact ih 2 _ o j1 _ _ (by omega) (by unfold sQ; omega) e2
      · have e := Sum.inl.inj (Option.some.inj hp)
        have e' : i = j := congrArg Prod.snd e
        subst e'
        unfold sC; omega
    · rw [pd] at hp
      obtain ⟨f1, j1, e1, e2⟩ := rB_inl hp
      have h1 := ih 1 _ o i _ _ (by omega) (by unfold sQ; omega) e1
      have := ih 4 _ o j1 _ _ (by omega) (by unfold sQ; unfold sC at h1; omega) e2
      unfold sC at this ⊢; omega
    · rw [pd] at hp
      split at hp
      · obtain ⟨f1, j1, e1, e2⟩ := rB_inl hp
        have h1 := ih 1 _ o (i + 1) _ _ (by omega) (by unfold sQ; omega) e1
        exact ih 4 _ o j1 _ _ (by omega) (by unfold sQ; unfold sC at h1; omega) e2
      · have e := Sum.inl.inj (Option.some.inj hp)
        have e' : i = j := congrArg Prod.snd e
        subst e'
        unfold sQ at hq
        unfold sC; omega
    · rw [pd] at hp
      obtain ⟨f1, j1, e1, e2⟩ := rB_inl hp
      have h1 := ih 7 _ o i _ _ (by omega) (by unfold sQ; omega) e1
      have := ih 6 _ o j1 _ _ (by omega) (by unfold sQ; unfold sC at h1; omega) e2
      unfold sC at this ⊢; omega
    · rw [pd] at hp
      split at hp
      · obtain ⟨f1, j1, e1, e2⟩ := rB_inl hp
        have h1 := ih 7 _ o (i + 1) _ _ (by omega) (by unfold sQ; omega) e1
        exact ih 6 _ o j1 _ _ (by omega) (by unfold sQ; unfold sC at h1; omega) e2
      · have e := Sum.inl.inj (Option.some.inj hp)
        have e' : i = j := congrArg Prod.snd e
        subst e'
        unfold sQ at hq
        unfold sC; omega
    · rw [pd] at hp
      obtain ⟨f1, j1, e1, e2⟩ := rB_inl hp
      have h1 := ih 9 _ o i _ _ (by omega) (by unfold sQ; omega) e1
      have := ih 8 _ o j1 _ _ (by omega) (by unfold sQ; unfold sC at h1; omega) e2
      unfold sC at this ⊢; omega
    · rw [pd] at hp
      split at hp
      · obtain ⟨f1, j1, e1, e2⟩ := rB_inl hp
        have h1 := ih 9 _ o (i + 1) _ _ (by omega) (by unfold sQ; omega) e1
        exact ih 8 _ o j1 _ _ (by omega) (by unfold sQ; unfold sC at h1; omega) e2
      · have e := Sum.inl.inj (Option.some.inj hp)
        have e' : i = j := congrArg Prod.snd e
        subst e'
        unfold sQ at hq
        unfold sC; omega
    · rw [pd] at hp
      · split at hp
        · split at hp
          · exact absurd (Option.some.inj hp) (by simp)
          · obtain ⟨f1, j1, e1, e2⟩ := rB_inl hp
            have e := Sum.inl.inj (Option.some.inj e2)
            have e' : j1 = j := congrArg Prod.snd e
            subst e'
            exact ih 9 _ _ _ _ _ (by omega) (by unfold sQ; omega) e1
        · obtain ⟨f1, j1, e1, e2⟩ := rB_inl hp
          split at e2
          · obtain ⟨f2, j2, e3, e4⟩ := rB_inl e2
            have e := Sum.inl.inj (Option.some.inj e4)
            have e' : j2 = j := congrArg Prod.snd e
            subst e'
            have := ih 3 _ _ _ _ _ (by omega) (by unfold sQ; omega) e3
            unfold sC at this ⊢; omega
          · exact absurd (Option.some.inj e2) (by simp)
      all_goals exact fun q => absurd q (by decide)
theorem rk_0 {o : Nat} (h : rkN o = 0) : 40 ≤ o := by
  unfold rkN at h
  repeat' split at h
  all_goals omega
theorem opn_ne {o : Nat} {P : List Nat} (h : o < 40) : opn (o :: P) = opn P := if_neg (by omega)
theorem opn_42 {P : List Nat} (h : opn P = 42) : P.headD 0 ≠ 41 := by
  match P, h with
  | [], h => exact absurd h (by decide)
  | o :: P, h =>
    intro e
    have e' : o = 41 := e
    subst e'
    exact absurd h (by show ¬ (if 40 ≤ 41 then 41 else opn P) = 42; rw [if_pos (by decide)]; decide)
theorem ask_T {P : List Nat} (h : opn P = 42) (h2 : hdR P < 4) : askA P = true := by
  match P, h, h2 with
  | [], h, _ => exact absurd h (by decide)
  | o :: P, h, h2 =>
    refine decide_eq_true ⟨h, ?_⟩
    have h2' : rkN o < 4 := h2
    by_cases q : rkN o = 0
    · exact Or.inl (rk_0 q)
    · exact Or.inr (by omega)
theorem ask_F1 {o : Nat} {P : List Nat} (h : 4 ≤ rkN o) : askA (o :: P) = false := decide_eq_false (fun z => by have := rk_lt (o := o) (by omega); omega)
theorem ask_F2 {o : Nat} {P : List Nat} (h : 40 ≤ o) (h2 : o ≠ 42) : askA (o :: P) = false := decide_eq_false (fun z => h2 (by have := z.1; rw [show opn (o :: P) = o from if_pos h] at this; exact this))
theorem cmpd_F {P : List Nat} (h : hdR P < 4) : cmpd P = false := by
  match P, h with
  | [], _ => rfl
  | o :: P, h =>
    have h' : rkN o < 4 := h
    show (if 4 < rkN o then cmpd P else decide (rkN o = 4)) = false
    rw [if_neg (by omega)]
    exact decide_eq_false (by omega)
theorem kb_lp {g lo s oo g1 : Nat} (m : Nat) (hpd : ∀ f o i, pd law cd nm (m + 1) g f o i = if cd i = s then rB (pd law cd nm m g1 (fun _ => 0) o (i + 1)) (fun g' j => pd law cd nm m g (bn s f g') o j) else rOk f i)
    (hs : (lo = 2 ∧ s = 29 ∧ oo = 21) ∨ (lo = 1 ∧ s = 28 ∧ oo = 22)) (I1 : KAp law cd nm g1 (lo + 1) m) (I2 : KBp law cd nm g lo m) : KBp law cd nm g lo (m + 1) := by
  intro f o i P r pend outS hp ho h8 hP h42 hpn hcm F
  rw [hpd] at hp
  have o42 : opn (pend ++ P) = 42 := (opn_app pend (fun x hx => by have := hpn x hx; omega)).trans h42
  by_cases q : cd i = s
  · rw [if_pos q] at hp
    have e1 : bTw cd i (pend ++ P) = oo := by
      unfold bTw
      rw [o42, hcm P, q]
      rcases hs with ⟨_, rfl, rfl⟩ | ⟨_, rfl, rfl⟩ <;> rfl
    have e2 : rkN oo = lo ∧ lsR oo = lo ∧ oo ≠ 0 ∧ oo < 40 ∧ isO oo = false := by rcases hs with ⟨rfl, _, rfl⟩ | ⟨rfl, _, rfl⟩ <;> decide
    have st : ∀ out, stP law cd nm (i, pend ++ P, true, outS ++ out) = .inl (i + 1, oo :: P, false, fl pend outS ++ out) := fun out => by
      rw [b_op (by rw [e1]; exact e2.2.2.1) (by rw [e1, e2.2.1]; exact hpn) (by rw [e1, e2.2.1]; exact hP), e1, fl_out]
    have oN : opN (oo :: P) = o := by show opN P + (if isO oo = true then 1 else 0) = o; rw [e2.2.2.2.2]; exact ho
    have hd : hdR (oo :: P) < lo + 1 + (if lo + 1 = 3 then 1 else 0) := by show rkN oo < _; omega
    have h42' : opn (oo :: P) = 42 := (opn_ne e2.2.2.2.1).trans h42
    rcases rB_cases hp with ⟨g', j, p1, p2⟩ | ⟨c', j, p1, rfl⟩
    · obtain ⟨pe, ou, a1, ⟨a2, a2'⟩, a3⟩ := I1 _ o (i + 1) (oo :: P) _ p1 oN h8 hd h42'
      have M : MnB law (fl (pe ++ [oo]) (ou ++ fl pend outS)) (bn s f g') := by
        rw [fl_app, fl_out]
        rcases hs with ⟨_, rfl, rfl⟩ | ⟨_, rfl, rfl⟩
        · exact Mn_and F a2'
        · exact Mn_or F a2'
      have K := I2 _ o j P r (pe ++ [oo]) (ou ++ fl pend outS) p2 ho h8 hP h42 (fun x hx => by
        rcases List.mem_append.mp hx with z | z
        · have := a1 x z; omega
        · have : x = oo := by simpa using z
          subst this; omega) (fun P' => by rw [List.append_assoc]; exact a2 _) M
      refine KR_pre id K (fun out res G => Go_s (st out) (a3 (fl pend outS ++ out) res ?_))
      have e : pe ++ [oo] ++ P = pe ++ oo :: P := by simp
      have e' : ou ++ fl pend outS ++ out = ou ++ (fl pend outS ++ out) := by simp
      show Go law cd nm (j, pe ++ oo :: P, true, ou ++ (fl pend outS ++ out)) res
      rw [← e, ← e']
      exact G
    · intro out
      exact Go_s (st out) (I1 _ o (i + 1) (oo :: P) _ p1 oN h8 hd h42' _)
  · rw [if_neg q] at hp
    obtain rfl := Option.some.inj hp
    exact ⟨pend, outS, hpn, ⟨hcm, F⟩, fun out res G => G⟩
theorem ka_lp {g g1 g2 lo : Nat} (m : Nat) (hl : lo = 1 ∨ lo = 2) (hpd : ∀ f o i, pd law cd nm (m + 1) g f o i = rB (pd law cd nm m g1 (fun _ => 0) o i) (fun f j => pd law cd nm m g2 f o j)) (I1 : KAp law cd nm g1 (lo + 1) m) (I2 : KBp law cd nm g2 lo m) : KAp law cd nm g lo (m + 1) := by
  intro f0 o i P r hp ho h8 hP h42
  have hP' : hdR P < lo := by rw [if_neg (by omega)] at hP; exact hP
  have hd : hdR P < lo + 1 + (if lo + 1 = 3 then 1 else 0) := by omega
  rw [hpd] at hp
  rcases rB_cases hp with ⟨f, j, p1, p2⟩ | ⟨c', j, p1, rfl⟩
  · obtain ⟨pe, ou, a1, ⟨a2, a2'⟩, a3⟩ := I1 _ o i P _ p1 ho h8 hd h42
    exact KR_pre id (I2 f o j P r pe ou p2 ho h8 hP' h42 (fun x hx => by have := a1 x hx; omega) a2 a2') (fun out res G => a3 out res G)
  · exact I1 _ o i P _ p1 ho h8 hd h42
/-- whole, ahead of an opening's next part -/
theorem w_stop {j q : Nat} {pend P : List Nat} {w : CdL} (hp : ∀ o ∈ pend, 1 ≤ rkN o) (hq : 40 ≤ q) (hb : bTw cd j (pend ++ q :: P) = 0) : stP law cd nm (j, pend ++ q :: P, true, w) = if prt cd j (pend ++ q :: P) = 0 then sBad 1 j else if prt cd j (pend ++ q :: P) = 1 then eO cd (j + 1) P (if q = 44 then (3, 0) :: fl pend w else fl pend w) else .inl (j + 1, prt cd j (pend ++ q :: P) :: P, false, fl pend w) := by
  show hO cd j (pend ++ q :: P) w = _
  have e1 : opn (pend ++ q :: P) = q := (opn_app pend hp).trans (if_pos hq)
  have e2 : stl 1 (pend ++ q :: P) w = (q :: P, fl pend w) := stl_fl (by show rkN q < 1; unfold rkN; rw [if_pos hq]; decide) pend w hp
  unfold hO
  rw [if_neg (not_not_intro hb), e1, e2, if_pos (by omega : q ≠ 0)]
  rfl
theorem bTw_0 {j q : Nat} {pend P : List Nat} (hp : ∀ o ∈ pend, 1 ≤ rkN o) (hq : 40 ≤ q) (h1 : cd j < 36 ∨ 39 < cd j) (h2 : q ≠ 42 ∨ (cmpd (pend ++ q :: P) = true ∧ cd j ≠ 29 ∧ cd j ≠ 28)) : bTw cd j (pend ++ q :: P) = 0 := by
  have e1 : opn (pend ++ q :: P) = q := (opn_app pend hp).trans (if_pos hq)
  unfold bTw
  rw [e1, if_neg (by omega), if_neg (by omega), if_neg (by omega), if_neg (by omega)]
  rcases h2 with h2 | ⟨h2, h3, h4⟩
  · exact if_neg h2
  · by_cases c42 : q = 42
    · rw [if_pos c42, if_pos h2, if_neg h3, if_neg h4]
    · exact if_neg c42
theorem ka_9 (m : Nat) (I3 : KEp law cd nm 3 5 m) (I9 : KAp law cd nm 9 3 m) : KAp law cd nm 9 3 (m + 1) := by
  intro f0 o i P r hp ho h8 hP h42
  have hP' : hdR P < 4 := hP
  have hA := ask_T h42 hP'
  rw [pd] at hp
  · by_cases q : cd i = 30
    · rw [if_pos q] at hp
      have st : ∀ out, stP law cd nm (i, P, false, out) = opd 20 i P out := fun out => by
        show bO law cd nm i P out = _
        unfold bO
        rw [q]
        show (if 30 = 30 ∧ askA P = true then opd 20 i P out else sBad 1 i) = _
        exact if_pos ⟨rfl, hA⟩
      by_cases q8 : 8 ≤ o
      · rw [if_pos q8] at hp
        obtain rfl := Option.some.inj hp
        intro out
        refine Go_s (st out) ?_
        unfold opd
        rw [if_pos (by omega)]
        rfl
      · rw [if_neg q8] at hp
        have st2 : ∀ out, stP law cd nm (i, P, false, out) = .inl (i + 1, 20 :: P, false, out) := fun out => by
          rw [st out]
          exact if_neg (by omega)
        have oN : opN (20 :: P) = o + 1 := by show opN P + (if isO 20 = true then 1 else 0) = _; rw [if_pos (by decide), ho]
        have h42' : opn (20 :: P) = 42 := (opn_ne (by decide)).trans h42
        rcases rB_cases hp with ⟨f, j, p1, p2⟩ | ⟨c', j, p1, rfl⟩
        · obtain rfl := Option.some.inj p2
          obtain ⟨pe, ou, a1, ⟨a2, a2'⟩, a3⟩ := I9 _ (o + 1) (i + 1) (20 :: P) _ p1 oN (by omega) (by show rkN 20 < 4; decide) h42'
          refine ⟨pe ++ [20], ou, ?_, ⟨fun P' => by rw [List.append_assoc]; exact a2 _, by rw [fl_app]; exact Mn_not a2'⟩, fun out res G => Go_s (st2 out) (a3 out res (by rw [List.append_assoc] at G; exact G))⟩
          intro x hx
          rcases List.mem_append.mp hx with z | z
          · exact a1 x z
          · have : x = 20 := by simpa using z
            subst this; decide
        · intro out
          exact Go_s (st2 out) (I9 _ (o + 1) (i + 1) (20 :: P) _ p1 oN (by omega) (by show rkN 20 < 4; decide) h42' out)
    · rw [if_neg q] at hp
      rcases rB_cases hp with ⟨f, j, p1, p2⟩ | ⟨c', j, p1, rfl⟩
      · obtain ⟨pe, ou, a1, a2, a3⟩ := I3 _ o i P _ p1 ho h8 (Or.inr q) (by omega) (opn_42 h42)
        have sc := pd_stop m 3 _ o i _ j (by omega) (by unfold sQ; omega) p1
        have hc : cd j < 36 ∨ 39 < cd j := sc.2.1 (by decide)
        have p1' : ∀ x ∈ pe, 1 ≤ rkN x := fun x hx => by have := a1 x hx; omega
        have o42 : opn (pe ++ P) = 42 := (opn_app pe p1').trans h42
        have cF : cmpd (pe ++ P) = false := (cmpd_app pe a1).trans (cmpd_F hP')
        have eb : bTw cd j (pe ++ P) = cmpO (cd j) := by
          unfold bTw
          rw [if_neg (by omega), if_neg (by omega), if_neg (by omega), if_neg (by omega), if_pos o42, cF]
          rfl
        by_cases qc : cmpT (cd j) = true
        · rw [if_pos qc] at p2
          have h6 := of_decide_eq_true qc
          have e2 : rkN (cmpO (cd j)) = 4 ∧ lsR (cmpO (cd j)) = 5 ∧ cmpO (cd j) ≠ 0 ∧ cmpO (cd j) < 40 ∧ isO (cmpO (cd j)) = false := by
            have h' : cd j = 32 ∨ cd j = 33 ∨ cd j = 34 ∨ cd j = 35 ∨ cd j = 43 ∨ cd j = 44 := by omega
            rcases h' with e | e | e | e | e | e <;> rw [e] <;> decide
          have st : ∀ out, stP law cd nm (j, pe ++ P, true, ou ++ out) = .inl (j + 1, cmpO (cd j) :: P, false, fl pe ou ++ out) := fun out => by
            rw [b_op (by rw [eb]; exact e2.2.2.1) (by rw [eb, e2.2.1]; exact a1) (by rw [eb, e2.2.1]; omega), eb, fl_out]
          have oN : opN (cmpO (cd j) :: P) = o := by show opN P + (if isO (cmpO (cd j)) = true then 1 else 0) = o; rw [e2.2.2.2.2]; exact ho
          have hd : hdR (cmpO (cd j) :: P) < 5 := by show rkN (cmpO (cd j)) < 5; omega
          have h41 : (cmpO (cd j) :: P).headD 0 ≠ 41 := by show cmpO (cd j) ≠ 41; omega
          rcases rB_cases p2 with ⟨g, j2, p3, p4⟩ | ⟨c', j2, p3, rfl⟩
          · obtain rfl := Option.some.inj p4
            obtain ⟨pe2, ou2, b1, b2, b3⟩ := I3 _ o (j + 1) (cmpO (cd j) :: P) _ p3 oN h8 (Or.inl (ask_F1 (by omega))) hd h41
            refine ⟨pe2 ++ [cmpO (cd j)], ou2 ++ fl pe ou, ?_, ⟨fun P' => ?_, ?_⟩, fun out res G => a3 out res (Go_s (st out) (b3 _ res ?_))⟩
            · intro x hx
              rcases List.mem_append.mp hx with z | z
              · have := b1 x z; omega
              · have : x = cmpO (cd j) := by simpa using z
                rw [this]; omega
            · rw [List.append_assoc, cmpd_app pe2 b1]
              show (if 4 < rkN (cmpO (cd j)) then cmpd P' else decide (rkN (cmpO (cd j)) = 4)) = true
              rw [if_neg (by omega)]
              exact decide_eq_true e2.1
            · rw [fl_app, fl_out]
              exact Mn_cmp qc a2 b2
            · have e : pe2 ++ [cmpO (cd j)] ++ P = pe2 ++ cmpO (cd j) :: P := by simp
              have e' : ou2 ++ fl pe ou ++ out = ou2 ++ (fl pe ou ++ out) := by simp
              show Go law cd nm (j2, pe2 ++ cmpO (cd j) :: P, true, ou2 ++ (fl pe ou ++ out)) res
              rw [← e, ← e']
              exact G
          · intro out
            exact a3 out _ (Go_s (st out) (I3 _ o (j + 1) (cmpO (cd j) :: P) _ p3 oN h8 (Or.inl (ask_F1 (by omega))) hd h41 _))
        · rw [if_neg qc] at p2
          obtain rfl := Option.some.inj p2
          intro out
          refine a3 out _ (Go_s (s := sBad 1 j) ?_ rfl)
          show hO cd j (pe ++ P) (ou ++ out) = _
          have e0 : cmpO (cd j) = 0 := by
            have h6 : ¬ ((32 ≤ cd j ∧ cd j ≤ 35) ∨ cd j = 43 ∨ cd j = 44) := fun z => qc (decide_eq_true z)
            unfold cmpO
            rw [if_neg (by omega), if_neg (by omega), if_neg (by omega), if_neg (by omega), if_neg (by omega), if_neg (by omega)]
          have ep : prt cd j (pe ++ P) = 0 := by
            unfold prt
            rw [o42, cF]
            show (if cd j = 25 ∧ false = true then 43 else 0) = 0
            exact if_neg (fun z => absurd z.2 (by decide))
          unfold hO
          rw [if_neg (not_not_intro (eb.trans e0)), if_pos ep, if_pos (by omega)]
      · exact fun out => I3 _ o i P _ p1 ho h8 (Or.inr q) (by omega) (opn_42 h42) out
  all_goals exact fun q => absurd q (by decide)
end KS
