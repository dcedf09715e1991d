/-! THE REFERENCE READS as pd says: ones, all -/
section KO
variable {law : Nat} {cd nm : Nat → Nat}
theorem opN_o {q : Nat} {P : List Nat} (h : isO q = true) : opN (q :: P) = opN P + 1 := by
  show opN P + (if isO q = true then 1 else 0) = _
  rw [if_pos h]
theorem opd_8 {q i : Nat} {P : List Nat} {w : CdL} (h : opN P = 8) : opd q i P w = sBad 3 i := if_pos h
theorem opd_n {q i : Nat} {P : List Nat} {w : CdL} (h : opN P ≠ 8) : opd q i P w = .inl (i + 1, q :: P, false, w) := if_neg h
/-- a sum behind an opening q (40, 43, 44), then the token s, or a fault -/
theorem k_sumO {m : Nat} (I3 : KEp law cd nm 3 5 m) {f0 : E1 → Int} {q o i s pv : Nat} {P : List Nat} {r : Rs} (hp : pd law cd nm m 3 f0 o i = some r) (hq : q = 40 ∨ q = 43 ∨ q = 44) (ho : opN (q :: P) = o) (h8 : o ≤ 8) (hs : ∀ a j, (∀ x ∈ a, 1 ≤ rkN x) → prt cd j (a ++ q :: P) = if cd j = s then pv else 0) (hpv : pv ≠ 0) : match r with
    | .inl (f, j) => ∃ seg, Mn law seg f ∧ ∀ out res, GoS law cd nm (if cd j = s then (if pv = 1 then eO cd (j + 1) P (if q = 44 then (3, 0) :: (seg ++ out) else seg ++ out) else .inl (j + 1, pv :: P, false, seg ++ out)) else sBad 1 j) res → Go law cd nm (i, q :: P, false, out) res
    | .inr (c, j) => ∀ out, Go law cd nm (i, q :: P, false, out) (.inr (c, j)) := by
  have hA : askA (q :: P) = false := ask_F2 (by omega) (by omega)
  have hd : hdR (q :: P) < 5 := by rcases hq with rfl | rfl | rfl <;> (show rkN _ < 5; decide)
  have h41 : (q :: P).headD 0 ≠ 41 := by show q ≠ 41; omega
  have K := I3 f0 o i (q :: P) r hp ho h8 (Or.inl hA) hd h41
  match r, hp, K with
  | .inl (f, j), hp, ⟨pe, ou, a1, a2, a3⟩ =>
    have sc := pd_stop m 3 _ o i _ j (by omega) (by unfold sQ; omega) hp
    have p1 : ∀ x ∈ pe, 1 ≤ rkN x := fun x hx => by have := a1 x hx; omega
    refine ⟨fl pe ou, a2, fun out res G => a3 out res (Go_s (w_stop p1 (by omega) (bTw_0 p1 (by omega) (sc.2.1 (by decide)) (Or.inl (by omega)))) ?_)⟩
    rw [hs pe j p1, fl_out]
    by_cases c : cd j = s
    · rw [if_pos c] at G ⊢
      rw [if_neg hpv]
      exact G
    · rw [if_neg c] at G ⊢
      rw [if_pos rfl]
      exact G
  | .inr (c, j), _, K => exact K
/-- one behind an opening q of rank 7 -/
theorem k_one7 {m : Nat} (I0 : K0p law cd nm m) {f0 : E1 → Int} {q o i : Nat} {P : List Nat} {r : Rs} (hp : pd law cd nm m 0 f0 o i = some r) (hq : rkN q = 7) (ho : opN (q :: P) = o) (h8 : o ≤ 8) : match r with
    | .inl (f, j) => ∃ seg, Mn law seg f ∧ ∀ out res, GoS law cd nm (eO cd j P ((q, 0) :: (seg ++ out))) res → Go law cd nm (i, q :: P, false, out) res
    | .inr (c, j) => ∀ out, Go law cd nm (i, q :: P, false, out) (.inr (c, j)) := by
  have K := I0 f0 o i (q :: P) r hp ho h8 (Or.inl (ask_F1 (by omega)))
  match r, K with
  | .inl (f, j), ⟨seg, a, b⟩ => exact ⟨seg, a, fun out res G => b out res (by rw [eO_pop hq]; exact G)⟩
  | .inr (c, j), K => exact K
theorem k0_s (m : Nat) (I0 : K0p law cd nm m) (I3 : KEp law cd nm 3 5 m) (I5 : KAp law cd nm 5 1 m) : K0p law cd nm (m + 1) := by
  intro f0 o i P r hp ho h8 hA
  rw [pd] at hp
  have bq : ∀ out, stP law cd nm (i, P, false, out) = bO law cd nm i P out := fun out => rfl
  by_cases q1 : cd i = 45
  · rw [if_pos q1] at hp
    have e : ∀ out, bO law cd nm i P out = if 9999 < nm i then sBad 2 i else eO cd (i + 1) P ((0, nm i) :: out) := fun out => if_pos q1
    by_cases q2 : 9999 < nm i
    · rw [if_pos q2] at hp
      obtain rfl := Option.some.inj hp
      exact fun out => Go_s ((e out).trans (if_pos q2)) rfl
    · rw [if_neg q2] at hp
      obtain rfl := Option.some.inj hp
      exact ⟨[(0, nm i)], Mn_num (by omega), fun out res G => Go_s ((e out).trans (if_neg q2)) G⟩
  rw [if_neg q1] at hp
  have e1 : ∀ out, bO law cd nm i P out = _ := fun out => if_neg q1
  by_cases q2 : cd i < 11
  · rw [if_pos q2] at hp
    have e : ∀ out, bO law cd nm i P out = if nmOk law (cd i) = true then eO cd (i + 1) P ((1, cd i) :: out) else sBad 5 i := fun out => (e1 out).trans (if_pos q2)
    by_cases q3 : nmOk law (cd i) = true
    · rw [if_pos q3] at hp
      obtain rfl := Option.some.inj hp
      exact ⟨[(1, cd i)], Mn_name q3, fun out res G => Go_s ((e out).trans (if_pos q3)) G⟩
    · rw [if_neg q3] at hp
      obtain rfl := Option.some.inj hp
      exact fun out => Go_s ((e out).trans (if_neg q3)) rfl
  rw [if_neg q2] at hp
  by_cases q3 : cd i = 40 ∨ cd i = 37 ∨ cd i = 21 ∨ cd i = 23 ∨ cd i = 24
  · rw [if_pos q3] at hp
    have bs : ∀ out, bO law cd nm i P out = if cd i = 23 ∧ law = 0 then sBad 5 i else opd (if cd i = 40 then 40 else if cd i = 37 then 5 else if cd i = 21 then 41 else if cd i = 23 then 2 else 42) i P out := fun out => by
      rw [e1 out, if_neg q2]
      rcases q3 with e | e | e | e | e
      · rw [e]; rfl
      · rw [e]; rfl
      · rw [e]; rfl
      · rw [e]
        show (if law = 0 then sBad 5 i else opd 2 i P out) = if 23 = 23 ∧ law = 0 then sBad 5 i else opd 2 i P out
        by_cases c : law = 0
        · rw [if_pos c, if_pos ⟨rfl, c⟩]
        · rw [if_neg c, if_neg (fun z => c z.2)]
      · rw [e]; rfl
    by_cases q5 : cd i = 23 ∧ law = 0
    · rw [if_pos q5] at hp
      obtain rfl := Option.some.inj hp
      exact fun out => Go_s ((bs out).trans (if_pos q5)) rfl
    rw [if_neg q5] at hp
    by_cases q8 : 8 ≤ o
    · rw [if_pos q8] at hp
      obtain rfl := Option.some.inj hp
      exact fun out => Go_s ((bs out).trans ((if_neg q5).trans (opd_8 (by omega)))) rfl
    rw [if_neg q8] at hp
    have st : ∀ q, q = (if cd i = 40 then 40 else if cd i = 37 then 5 else if cd i = 21 then 41 else if cd i = 23 then 2 else 42) → ∀ out, stP law cd nm (i, P, false, out) = .inl (i + 1, q :: P, false, out) := fun q hq out => by
      rw [hq]
      exact (bs out).trans ((if_neg q5).trans (opd_n (by omega)))
    rcases q3 with e | e | e | e | e
    · rw [e, if_pos rfl] at hp
      have st' := st 40 (by rw [e]; rfl)
      have oN : opN (40 :: P) = o + 1 := by rw [opN_o (by decide), ho]
      have hs : ∀ a j, (∀ x ∈ a, 1 ≤ rkN x) → prt cd j (a ++ 40 :: P) = if cd j = 41 then 1 else 0 := fun a j ha => by
        unfold prt
        rw [opn_app a ha]
        rfl
      rcases rB_cases hp with ⟨f, j, p1, p2⟩ | ⟨c', j, p1, rfl⟩
      · obtain ⟨seg, a1, a2⟩ := k_sumO I3 p1 (Or.inl rfl) oN (by omega) hs (by decide)
        by_cases c : cd j = 41
        · rw [if_pos c] at p2
          obtain rfl := Option.some.inj p2
          exact ⟨seg, a1, fun out res G => Go_s (st' out) (a2 out res (by rw [if_pos c]; exact G))⟩
        · rw [if_neg c] at p2
          obtain rfl := Option.some.inj p2
          exact fun out => Go_s (st' out) (a2 out _ (by rw [if_neg c]; rfl))
      · exact fun out => Go_s (st' out) (k_sumO I3 p1 (Or.inl rfl) oN (by omega) hs (by decide) out)
    · rw [e, if_neg (by decide), if_pos rfl] at hp
      have st' := st 5 (by rw [e]; rfl)
      have oN : opN (5 :: P) = o + 1 := by rw [opN_o (by decide), ho]
      rcases rB_cases hp with ⟨f, j, p1, p2⟩ | ⟨c', j, p1, rfl⟩
      · obtain ⟨seg, a1, a2⟩ := k_one7 I0 p1 (by decide) oN (by omega)
        obtain rfl := Option.some.inj p2
        exact ⟨(5, 0) :: seg, Mn_neg a1, fun out res G => Go_s (st' out) (a2 out res G)⟩
      · exact fun out => Go_s (st' out) (k_one7 I0 p1 (by decide) oN (by omega) out)
    · rw [e, if_neg (by decide), if_neg (by decide), if_pos rfl] at hp
      have st' := st 41 (by rw [e]; rfl)
      have oN : opN (41 :: P) = o + 1 := by rw [opN_o (by decide), ho]
      have oN' : opN (4 :: P) = o + 1 := by rw [opN_o (by decide), ho]
      have em : ∀ j w, eO cd j (41 :: P) w = if cd j = 22 then .inl (j + 1, 4 :: P, false, w) else sBad 1 j := fun j w => rfl
      rcases rB_cases hp with ⟨f, j, p1, p2⟩ | ⟨c', j, p1, rfl⟩
      · obtain ⟨seg, a1, a2⟩ := I0 _ (o + 1) (i + 1) (41 :: P) _ p1 oN (by omega) (Or.inl (ask_F2 (by decide) (by decide)))
        by_cases c : cd j = 22
        · rw [if_pos c] at p2
          rcases rB_cases p2 with ⟨g, j2, p3, p4⟩ | ⟨c', j2, p3, rfl⟩
          · obtain ⟨seg2, b1, b2⟩ := k_one7 (q := 4) I0 p3 (by decide) oN' (by omega)
            obtain rfl := Option.some.inj p4
            refine ⟨(4, 0) :: (seg2 ++ seg), Mn_two (by omega) a1 b1, fun out res G => Go_s (st' out) (a2 out res ?_)⟩
            rw [em, if_pos c]
            refine b2 _ res ?_
            have e' : (4, 0) :: (seg2 ++ seg) ++ out = (4, 0) :: (seg2 ++ (seg ++ out)) := by simp
            rw [← e']
            exact G
          · intro out
            refine Go_s (st' out) (a2 out _ ?_)
            rw [em, if_pos c]
            exact k_one7 (q := 4) I0 p3 (by decide) oN' (by omega) _
        · rw [if_neg c] at p2
          obtain rfl := Option.some.inj p2
          exact fun out => Go_s (st' out) (a2 out _ (by rw [em, if_neg c]; rfl))
      · exact fun out => Go_s (st' out) (I0 _ (o + 1) (i + 1) (41 :: P) _ p1 oN (by omega) (Or.inl (ask_F2 (by decide) (by decide))) out)
    · rw [e, if_neg (by decide), if_neg (by decide), if_neg (by decide), if_pos rfl] at hp
      have st' := st 2 (by rw [e]; rfl)
      have oN : opN (2 :: P) = o + 1 := by rw [opN_o (by decide), ho]
      rcases rB_cases hp with ⟨f, j, p1, p2⟩ | ⟨c', j, p1, rfl⟩
      · obtain ⟨seg, a1, a2⟩ := k_one7 I0 p1 (by decide) oN (by omega)
        obtain rfl := Option.some.inj p2
        exact ⟨(2, 0) :: seg, Mn_light a1 (fun z => q5 ⟨e, z⟩), fun out res G => Go_s (st' out) (a2 out res G)⟩
      · exact fun out => Go_s (st' out) (k_one7 I0 p1 (by decide) oN (by omega) out)
    · rw [e, if_neg (by decide), if_neg (by decide), if_neg (by decide), if_neg (by decide)] at hp
      have st' := st 42 (by rw [e]; rfl)
      have oN : opN (42 :: P) = o + 1 := by rw [opN_o (by decide), ho]
      have oN3 : opN (43 :: P) = o + 1 := by rw [opN_o (by decide), ho]
      have oN4 : opN (44 :: P) = o + 1 := by rw [opN_o (by decide), ho]
      have hs3 : ∀ a j, (∀ x ∈ a, 1 ≤ rkN x) → prt cd j (a ++ 43 :: P) = if cd j = 26 then 44 else 0 := fun a j ha => by
        unfold prt
        rw [opn_app a ha]
        rfl
      have hs4 : ∀ a j, (∀ x ∈ a, 1 ≤ rkN x) → prt cd j (a ++ 44 :: P) = if cd j = 27 then 1 else 0 := fun a j ha => by
        unfold prt
        rw [opn_app a ha]
        rfl
      have h42 : opn (42 :: P) = 42 := rfl
      rcases rB_cases hp with ⟨qf, j, p1, p2⟩ | ⟨c', j, p1, rfl⟩
      · obtain ⟨pe, ou, a1, ⟨a2, a2'⟩, a3⟩ := I5 _ (o + 1) (i + 1) (42 :: P) _ p1 oN (by omega) (by show rkN 42 < 1; decide) h42
        have sc := pd_stop m 5 _ (o + 1) (i + 1) _ j (by omega) (by unfold sQ; omega) p1
        have w1 : ∀ w, stP law cd nm (j, pe ++ 42 :: P, true, w) = if cd j = 25 then .inl (j + 1, 43 :: P, false, fl pe w) else sBad 1 j := fun w => by
          rw [w_stop a1 (by decide) (bTw_0 a1 (by decide) (sc.2.1 (by decide)) (Or.inr ⟨a2 _, sc.2.2.1 (by decide) (by decide), sc.2.2.2 (by decide)⟩))]
          have ep : prt cd j (pe ++ 42 :: P) = if cd j = 25 then 43 else 0 := by
            unfold prt
            rw [opn_app pe a1, a2]
            show (if cd j = 25 ∧ true = true then 43 else 0) = _
            by_cases c : cd j = 25
            · rw [if_pos c, if_pos ⟨c, rfl⟩]
            · rw [if_neg c, if_neg (fun z => c z.1)]
          rw [ep]
          by_cases c : cd j = 25
          · rw [if_pos c, if_pos c, if_neg (by decide), if_neg (by decide)]
          · rw [if_neg c, if_neg c, if_pos rfl]
        by_cases c : cd j = 25
        · rw [if_pos c] at p2
          rcases rB_cases p2 with ⟨f, j2, p3, p4⟩ | ⟨c', j2, p3, rfl⟩
          · obtain ⟨seg2, b1, b2⟩ := k_sumO I3 p3 (Or.inr (Or.inl rfl)) oN3 (by omega) hs3 (by decide)
            by_cases c2 : cd j2 = 26
            · rw [if_pos c2] at p4
              rcases rB_cases p4 with ⟨g, j3, p5, p6⟩ | ⟨c', j3, p5, rfl⟩
              · obtain ⟨seg3, d1, d2⟩ := k_sumO I3 p5 (Or.inr (Or.inr rfl)) oN4 (by omega) hs4 (by decide)
                by_cases c3 : cd j3 = 27
                · rw [if_pos c3] at p6
                  obtain rfl := Option.some.inj p6
                  refine ⟨(3, 0) :: (seg3 ++ (seg2 ++ fl pe ou)), Mn_if a2' b1 d1, fun out res G => Go_s (st' out) (a3 out res (Go_s ((w1 _).trans (if_pos c)) (b2 _ res ?_)))⟩
                  rw [if_pos c2, if_neg (by decide)]
                  refine d2 _ res ?_
                  rw [if_pos c3, if_pos rfl, if_pos rfl, fl_out]
                  have e' : (3, 0) :: (seg3 ++ (seg2 ++ fl pe ou)) ++ out = (3, 0) :: (seg3 ++ (seg2 ++ (fl pe ou ++ out))) := by simp
                  rw [← e']
                  exact G
                · rw [if_neg c3] at p6
                  obtain rfl := Option.some.inj p6
                  intro out
                  refine Go_s (st' out) (a3 out _ (Go_s ((w1 _).trans (if_pos c)) (b2 _ _ ?_)))
                  rw [if_pos c2, if_neg (by decide)]
                  refine d2 _ _ ?_
                  rw [if_neg c3]
                  rfl
              · intro out
                refine Go_s (st' out) (a3 out _ (Go_s ((w1 _).trans (if_pos c)) (b2 _ _ ?_)))
                rw [if_pos c2, if_neg (by decide)]
                exact k_sumO I3 p5 (Or.inr (Or.inr rfl)) oN4 (by omega) hs4 (by decide) _
            · rw [if_neg c2] at p4
              obtain rfl := Option.some.inj p4
              intro out
              refine Go_s (st' out) (a3 out _ (Go_s ((w1 _).trans (if_pos c)) (b2 _ _ ?_)))
              rw [if_neg c2]
              rfl
          · intro out
            exact Go_s (st' out) (a3 out _ (Go_s ((w1 _).trans (if_pos c)) (k_sumO I3 p3 (Or.inr (Or.inl rfl)) oN3 (by omega) hs3 (by decide) _)))
        · rw [if_neg c] at p2
          obtain rfl := Option.some.inj p2
          exact fun out => Go_s (st' out) (a3 out _ (Go_s ((w1 _).trans (if_neg c)) rfl))
      · exact fun out => Go_s (st' out) (I5 _ (o + 1) (i + 1) (42 :: P) _ p1 oN (by omega) (by show rkN 42 < 1; decide) h42 out)
  · rw [if_neg q3] at hp
    obtain rfl := Option.some.inj hp
    intro out
    refine Go_s (s := sBad 1 i) ?_ rfl
    show bO law cd nm i P out = _
    rw [e1 out, if_neg q2, if_neg (by omega), if_neg (by omega), if_neg (by omega), if_neg (by omega), if_neg (by omega)]
    refine if_neg (fun z => ?_)
    rcases hA with h | h
    · rw [h] at z
      exact absurd z.2 (by decide)
    · exact h z.1
theorem k_all (m : Nat) : K0p law cd nm m ∧ (KEp law cd nm 1 6 m ∧ KLp law cd nm 2 6 m) ∧ (KEp law cd nm 3 5 m ∧ KLp law cd nm 4 5 m) ∧ (KAp law cd nm 5 1 m ∧ KBp law cd nm 6 1 m) ∧ (KAp law cd nm 7 2 m ∧ KBp law cd nm 8 2 m) ∧ KAp law cd nm 9 3 m := by
  induction m with
  | zero =>
    refine ⟨fun f0 o i P r hp => ?_, ⟨fun f0 o i P r hp => ?_, fun f o i P r pe ou hp => ?_⟩, ⟨fun f0 o i P r hp => ?_, fun f o i P r pe ou hp => ?_⟩, ⟨fun f0 o i P r hp => ?_, fun f o i P r pe ou hp => ?_⟩, ⟨fun f0 o i P r hp => ?_, fun f o i P r pe ou hp => ?_⟩, fun f0 o i P r hp => ?_⟩
    all_goals
      rw [pd] at hp
      exact absurd hp (by simp)
  | succ m ih =>
    obtain ⟨i0, ⟨i1, i2⟩, ⟨i3, i4⟩, ⟨i5, i6⟩, ⟨i7, i8⟩, i9⟩ := ih
    exact ⟨k0_s m i0 i3 i5, ⟨ke_1 m i0 i2, kl_2 m i0 i2⟩, ⟨ke_3 m i1 i4, kl_4 m i1 i4⟩, ⟨ka_lp m (Or.inl rfl) (fun f o i => by rw [pd]) i7 i6, kb_lp (s := 28) (oo := 22) m (fun f o i => by rw [pd]) (by omega) i7 i6⟩, ⟨ka_lp m (Or.inr rfl) (fun f o i => by rw [pd]) i9 i8, kb_lp (s := 29) (oo := 21) m (fun f o i => by rw [pd]) (by omega) i9 i8⟩, ka_9 m i3 i9⟩
/-- a whole sum -/
theorem k_sum {m i : Nat} {f0 : E1 → Int} {r : Rs} (hp : pd law cd nm m 3 f0 0 i = some r) : match r with
    | .inl (f, j) => ∃ seg, Mn law seg f ∧ ∀ out, Go law cd nm (i, [], false, out) (.inl (seg ++ out, j))
    | .inr (c, j) => ∀ out, Go law cd nm (i, [], false, out) (.inr (c, j)) := by
  have K := (k_all m).2.2.1.1 f0 0 i [] r hp rfl (by decide) (Or.inl rfl) (by decide) (by decide)
  match r, hp, K with
  | .inl (f, j), hp, ⟨pe, ou, a1, a2, a3⟩ =>
    have sc := pd_stop m 3 _ 0 i _ j (by omega) (by unfold sQ; omega) hp
    have hc := sc.2.1 (by decide)
    have p1 : ∀ x ∈ pe, 1 ≤ rkN x := fun x hx => by have := a1 x hx; omega
    have e1 : opn (pe ++ []) = 0 := opn_app pe p1
    refine ⟨fl pe ou, a2, fun out => a3 out _ (Go_s (s := .inr (.inl (fl pe ou ++ out, j))) ?_ rfl)⟩
    show hO cd j (pe ++ []) (ou ++ out) = _
    have eb : bTw cd j (pe ++ []) = 0 := by
      unfold bTw
      rw [e1, if_neg (by omega), if_neg (by omega), if_neg (by omega), if_neg (by omega)]
      rfl
    have ep : prt cd j (pe ++ []) = 0 := by
      unfold prt
      rw [e1]
      rfl
    unfold hO
    rw [if_neg (not_not_intro eb), if_pos ep, e1, if_neg (by decide), stl_fl (P := []) (by decide) pe (ou ++ out) p1, fl_out]
  | .inr (c, j), _, K => exact K
end KO
