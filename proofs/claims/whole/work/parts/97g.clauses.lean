/-! CLAUSES AND TEXTS, PURE -/
def srt (c : Nat) : Nat := if c = 11 then 0 else if c = 12 then 1 else if c = 13 then 2 else if c = 14 then 3 else if c = 5 then 4 else if c = 15 then 5 else if c = 16 then 6 else if c = 17 then 7 else if c = 18 then 8 else if c = 0 then 9 else 10
abbrev Rb : Type := Sum (Nat × Nat × Nat) (Nat × Nat)
def fgO (cd nm : Nat → Nat) (lo hi j : Nat) (g : Nat → Nat → Rb) : Rb := if cd j = 45 then (if nm j < lo ∨ hi < nm j then .inr (2, j) else g (nm j) (j + 1)) else .inr (1, j)
def prO (cd nm : Nat → Nat) (top wd top2 j : Nat) : Rb := fgO cd nm 0 top j fun a j1 => if cd j1 = wd then fgO cd nm 0 top2 (j1 + 1) (fun c j2 => .inl (a, c, j2)) else .inr (1, j1)
def dbO (cd nm : Nat → Nat) (s j : Nat) : Rb := if s = 3 then prO cd nm 29 4 3 j else if s = 4 then prO cd nm 9 19 29 j else if s = 5 then prO cd nm 29 9 9 j else if s = 8 then prO cd nm 4 20 29 j else if s = 6 then fgO cd nm 0 29 j (fun a j1 => .inl (a, 0, j1)) else if s = 9 then fgO cd nm 1 60 j (fun a j1 => .inl (a, 0, j1)) else .inl (0, 0, j)
abbrev Rc : Type := Sum (Txt × Nat) (Nat × Nat)
def addX (X : Txt) (s v1 v2 : Nat) (fo : Option (E1 → Int)) : Txt := ((fun q => if q = s then fo else X.1 q), (X.2.1 + 1, fun q => if q = X.2.1 then (s, nI v1, nI v2) else X.2.2 q))
def stopO (cd : Nat → Nat) (X : Txt) (j : Nat) : Option Rc := if cd j = 42 then some (.inl (X, j + 1)) else some (.inr (1, j))
def clO (cd nm : Nat → Nat) (m : Nat) (X : Txt) (i : Nat) : Option Rc :=
  if srt (cd i) = 10 then some (.inr (1, i))
  else if srt (cd i) < 3 ∧ (X.1 (srt (cd i))).isSome = true then some (.inr (4, i))
  else if 24 ≤ X.2.1 then some (.inr (6, i))
  else if srt (cd i) < 3 then (match pd (srt (cd i)) cd nm m 3 (fun _ => 0) 0 (i + 1) with
    | none => none
    | some (.inr z) => some (.inr z)
    | some (.inl (f, j)) => stopO cd (addX X (srt (cd i)) 0 0 (some f)) j)
  else (match dbO cd nm (srt (cd i)) (i + 1) with
    | .inr z => some (.inr z)
    | .inl (a, c, j) => stopO cd (addX X (srt (cd i)) a c none) j)
def txO (cd nm : Nat → Nat) (m : Nat) : Nat → Txt → Nat → Option Rc
  | 0, _, _ => none
  | q + 1, X, i => if cd i = 46 then some (.inl (X, i)) else (match clO cd nm m X i with
    | none => none
    | some (.inr z) => some (.inr z)
    | some (.inl (X', j)) => txO cd nm m q X' j)
def X0 : Txt := (fun _ => none, (0, fun _ => (0, 0, 0)))
/-! THE REFERENCE'S CODE AND WHAT IT COMES TO -/
theorem Run2_up {law : Nat} {T : Nat → Int32} {c0 : Nat} {E : E1} {e e' : Nat} (he : e ≤ e') (n : Nat) : ∀ a b, Run2 law T c0 E e n a b → Run2 law T c0 E e' n a b := by
  induction n with
  | zero => exact fun a b h => h
  | succ n ih =>
    intro a b h
    obtain ⟨h1, c, h2, h3⟩ := h
    exact ⟨by omega, c, h2, ih c b h3⟩
theorem Run2_tr {law : Nat} {T : Nat → Int32} {c0 : Nat} {E : E1} {e : Nat} {m : Nat} {b c : V2} (H : Run2 law T c0 E e m b c) (n : Nat) : ∀ a, Run2 law T c0 E e n a b → ∃ q, Run2 law T c0 E e q a c := by
  induction n with
  | zero =>
    intro a h
    have e : a = b := h
    subst e
    exact ⟨m, H⟩
  | succ n ih =>
    intro a h
    obtain ⟨h1, d, h2, h3⟩ := h
    obtain ⟨q, hq⟩ := ih d h3
    exact ⟨q + 1, h1, d, h2, hq⟩
theorem ev1_S2 {law : Nat} {T : Nat → Int32} {c0 i : Nat} {E : E1} {x : Nat × Nat} {vs vs' : List Int} {ts ts' : List Bool} (H : ev1 law E x (vs, ts) = some (vs', ts')) (h1 : T (c0 + 2 * i) = nI x.1) (h2 : T (c0 + 2 * i + 1) = nI x.2) (l1 : vs.length < 320) (l2 : ts.length < 320) : S2 law T c0 E i vs ts (i + 1, vs', ts') ∧ vs'.length ≤ vs.length + 1 ∧ ts'.length ≤ ts.length + 1 := by
  obtain ⟨o, v⟩ := x
  unfold ev1 at H
  by_cases c0' : 20000 ≤ v
  · rw [if_pos c0'] at H; exact absurd H (by simp)
  rw [if_neg c0'] at H
  have o64 : o ≤ 22 := by
    by_cases z : o ≤ 22
    · exact z
    · rw [if_neg (by show ¬ o = 0; omega), if_neg (by show ¬ o = 1; omega), if_neg (by show ¬ o = 3; omega), if_neg (by show ¬ o = 5; omega), if_neg (by show ¬ o = 2; omega), if_neg (by show ¬ o = 4; omega), if_neg (by show ¬ o ≤ 9; omega), if_neg (by show ¬ o ≤ 15; omega), if_neg (by show ¬ o = 20; omega), if_neg (by show ¬ (o = 21 ∨ o = 22); omega)] at H
      exact absurd H (by simp)
  unfold S2
  by_cases q0 : o = 0
  · subst q0
    rw [if_pos rfl] at H
    obtain ⟨rfl, rfl⟩ := Prod.mk.inj (Option.some.inj H)
    exact ⟨⟨0, v, by omega, by omega, h1, h2, l1, l2, Or.inl ⟨rfl, rfl⟩⟩, Nat.le_refl _, Nat.le_succ _⟩
  rw [if_neg (show ¬ o = 0 from q0)] at H
  by_cases q1 : o = 1
  · subst q1
    rw [if_pos rfl] at H
    split at H
    · rename_i g
      obtain ⟨rfl, rfl⟩ := Prod.mk.inj (Option.some.inj H)
      exact ⟨⟨1, v, by omega, by omega, h1, h2, l1, l2, Or.inr (Or.inl ⟨rfl, g, rfl⟩)⟩, Nat.le_refl _, Nat.le_succ _⟩
    · exact absurd H (by simp)
  rw [if_neg (show ¬ o = 1 from q1)] at H
  by_cases q3 : o = 3
  · subst q3
    rw [if_pos rfl] at H
    split at H
    · rename_i a c q tr tq e
      obtain ⟨rfl, rfl⟩ := Prod.mk.inj e
      obtain ⟨rfl, rfl⟩ := Prod.mk.inj (Option.some.inj H)
      exact ⟨⟨3, v, by omega, by omega, h1, h2, l1, l2, Or.inr (Or.inr (Or.inl ⟨rfl, a, c, q, tr, tq, rfl, rfl, rfl⟩))⟩, by simp, by simp; omega⟩
    · exact absurd H (by simp)
  rw [if_neg (show ¬ o = 3 from q3)] at H
  by_cases q5 : o = 5
  · subst q5
    rw [if_pos rfl] at H
    split at H
    · rename_i a q ts0 e
      obtain ⟨rfl, rfl⟩ := Prod.mk.inj e
      obtain ⟨rfl, rfl⟩ := Prod.mk.inj (Option.some.inj H)
      exact ⟨⟨5, v, by omega, by omega, h1, h2, l1, l2, Or.inr (Or.inr (Or.inr (Or.inl ⟨rfl, a, q, rfl, rfl⟩)))⟩, by simp, by simp⟩
    · exact absurd H (by simp)
  rw [if_neg (show ¬ o = 5 from q5)] at H
  by_cases q2 : o = 2
  · subst q2
    rw [if_pos rfl] at H
    split at H
    · exact absurd H (by simp)
    rename_i lw
    split at H
    · rename_i a q ts0 e
      obtain ⟨rfl, rfl⟩ := Prod.mk.inj e
      obtain ⟨rfl, rfl⟩ := Prod.mk.inj (Option.some.inj H)
      exact ⟨⟨2, v, by omega, by omega, h1, h2, l1, l2, Or.inr (Or.inr (Or.inr (Or.inr (Or.inl ⟨rfl, lw, a, q, rfl, rfl⟩))))⟩, by simp, by simp⟩
    · exact absurd H (by simp)
  rw [if_neg (show ¬ o = 2 from q2)] at H
  by_cases q4 : o = 4
  · subst q4
    rw [if_pos rfl] at H
    split at H
    · rename_i a c q ts0 e
      obtain ⟨rfl, rfl⟩ := Prod.mk.inj e
      obtain ⟨rfl, rfl⟩ := Prod.mk.inj (Option.some.inj H)
      exact ⟨⟨4, v, by omega, by omega, h1, h2, l1, l2, Or.inr (Or.inr (Or.inr (Or.inr (Or.inr (Or.inl ⟨rfl, a, c, q, rfl, rfl⟩)))))⟩, by simp, by simp⟩
    · exact absurd H (by simp)
  rw [if_neg (show ¬ o = 4 from q4)] at H
  by_cases q9 : o ≤ 9
  · rw [if_pos (show o ≤ 9 from q9)] at H
    split at H
    · rename_i a c q ts0 e
      obtain ⟨rfl, rfl⟩ := Prod.mk.inj e
      obtain ⟨rfl, rfl⟩ := Prod.mk.inj (Option.some.inj H)
      exact ⟨⟨o, v, by omega, by omega, h1, h2, l1, l2, Or.inr (Or.inr (Or.inr (Or.inr (Or.inr (Or.inr (Or.inl ⟨by omega, a, c, q, rfl, rfl⟩))))))⟩, by simp, by simp⟩
    · exact absurd H (by simp)
  rw [if_neg (show ¬ o ≤ 9 from q9)] at H
  by_cases q15 : o ≤ 15
  · rw [if_pos (show o ≤ 15 from q15)] at H
    split at H
    · rename_i a c q ts0 e
      obtain ⟨rfl, rfl⟩ := Prod.mk.inj e
      obtain ⟨rfl, rfl⟩ := Prod.mk.inj (Option.some.inj H)
      exact ⟨⟨o, v, by omega, by omega, h1, h2, l1, l2, Or.inr (Or.inr (Or.inr (Or.inr (Or.inr (Or.inr (Or.inr (Or.inl ⟨by omega, a, c, q, rfl, rfl⟩)))))))⟩, by simp; omega, by simp⟩
    · exact absurd H (by simp)
  rw [if_neg (show ¬ o ≤ 15 from q15)] at H
  by_cases q20 : o = 20
  · subst q20
    rw [if_pos rfl] at H
    split at H
    · rename_i vs0 p q e
      obtain ⟨rfl, rfl⟩ := Prod.mk.inj e
      obtain ⟨rfl, rfl⟩ := Prod.mk.inj (Option.some.inj H)
      exact ⟨⟨20, v, by omega, by omega, h1, h2, l1, l2, Or.inr (Or.inr (Or.inr (Or.inr (Or.inr (Or.inr (Or.inr (Or.inr (Or.inl ⟨rfl, p, q, rfl, rfl⟩))))))))⟩, by simp, by simp⟩
    · exact absurd H (by simp)
  rw [if_neg (show ¬ o = 20 from q20)] at H
  by_cases q21 : o = 21 ∨ o = 22
  · rw [if_pos (show o = 21 ∨ o = 22 from q21)] at H
    split at H
    · rename_i vs0 p p2 q e
      obtain ⟨rfl, rfl⟩ := Prod.mk.inj e
      obtain ⟨rfl, rfl⟩ := Prod.mk.inj (Option.some.inj H)
      exact ⟨⟨o, v, by omega, by omega, h1, h2, l1, l2, Or.inr (Or.inr (Or.inr (Or.inr (Or.inr (Or.inr (Or.inr (Or.inr (Or.inr ⟨q21, p, p2, q, rfl, rfl⟩))))))))⟩, by simp, by simp⟩
    · exact absurd H (by simp)
  rw [if_neg (show ¬ (o = 21 ∨ o = 22) from q21)] at H
  exact absurd H (by simp)
theorem ev_run {law : Nat} {T : Nat → Int32} {c0 : Nat} {E : E1} {w : CdL} {vs : List Int} {ts : List Bool} (seg : CdL) : ∀ (vs' : List Int) (ts' : List Bool), cR c0 (seg ++ w) T → vs.length + seg.length ≤ 319 → ts.length + seg.length ≤ 319 → evR law E seg (vs, ts) = some (vs', ts') → (∃ n, Run2 law T c0 E (w.length + seg.length) n (w.length, vs, ts) (w.length + seg.length, vs', ts')) ∧ vs'.length ≤ vs.length + seg.length ∧ ts'.length ≤ ts.length + seg.length := by
  induction seg with
  | nil =>
    intro vs' ts' _ _ _ H
    obtain ⟨rfl, rfl⟩ := Prod.mk.inj (Option.some.inj H)
    exact ⟨⟨0, rfl⟩, Nat.le_refl _, Nat.le_refl _⟩
  | cons x seg ih =>
    intro vs' ts' C l1 l2 H
    have ln : (x :: seg).length = seg.length + 1 := rfl
    rw [ln] at l1 l2 ⊢
    have H' : (evR law E seg (vs, ts)).bind (ev1 law E x) = some (vs', ts') := H
    obtain ⟨⟨v1, t1⟩, e1, e2⟩ := Option.bind_eq_some_iff.mp H'
    obtain ⟨c1, c2, c3⟩ := C
    obtain ⟨⟨n, R⟩, g1, g2⟩ := ih v1 t1 c3 (by omega) (by omega) e1
    have el : (seg.append w).length = w.length + seg.length := by show (seg ++ w).length = _; rw [List.length_append]; omega
    rw [el] at c1 c2
    obtain ⟨S, g3, g4⟩ := ev1_S2 e2 c1 c2 (by omega) (by omega)
    refine ⟨?_, by omega, by omega⟩
    have R1 : Run2 law T c0 E (w.length + (seg.length + 1)) 1 (w.length + seg.length, v1, t1) (w.length + (seg.length + 1), vs', ts') := ⟨by show w.length + seg.length < _; omega, _, S, rfl⟩
    exact Run2_tr R1 n _ (Run2_up (by omega) n _ _ R)
theorem Mn_Sg2 {law : Nat} {T : Nat → Int32} {c0 : Nat} {seg w : CdL} {f : E1 → Int} (M : Mn law seg f) (C : cR c0 (seg ++ w) T) (hl : seg.length ≤ 303) : Sg2 law f T c0 w.length (w.length + seg.length) 319 := fun E hE vs ts l1 l2 => (ev_run seg _ _ C (by omega) (by omega) (M E hE vs ts)).1
