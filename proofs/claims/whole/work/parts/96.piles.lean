/-! THE REFERENCE'S READING, PURE: piles of operators -/
abbrev CdL : Type := List (Nat × Nat)
def isO (o : Nat) : Bool := decide (40 ≤ o ∨ o = 5 ∨ o = 2 ∨ o = 4 ∨ o = 20)
def opN : List Nat → Nat
  | [] => 0
  | o :: P => opN P + (if isO o = true then 1 else 0)
def stl (l : Nat) : List Nat → CdL → List Nat × CdL
  | [], w => ([], w)
  | o :: P, w => if l ≤ rkN o then stl l P ((o, 0) :: w) else (o :: P, w)
def opn : List Nat → Nat
  | [] => 0
  | o :: P => if 40 ≤ o then o else opn P
def cmpd : List Nat → Bool
  | [] => false
  | o :: P => if 4 < rkN o then cmpd P else decide (rkN o = 4)
def hdR : List Nat → Nat
  | [] => 0
  | o :: _ => rkN o
def askA : List Nat → Bool
  | [] => false
  | o :: P => decide (opn (o :: P) = 42 ∧ (40 ≤ o ∨ (1 ≤ rkN o ∧ rkN o ≤ 3)))
abbrev Cfg : Type := Nat × List Nat × Bool × CdL
/-- done, with its code, at a token; or a fault at a token -/
abbrev Fin2 : Type := Sum (CdL × Nat) (Nat × Nat)
abbrev SRs : Type := Sum Cfg Fin2
abbrev sBad (c j : Nat) : SRs := .inr (.inr (c, j))
def eO (cd : Nat → Nat) (i : Nat) (P : List Nat) (w : CdL) : SRs := if (stl 7 P w).1.headD 0 = 41 then (if cd i = 22 then .inl (i + 1, 4 :: (stl 7 P w).1.tail, false, (stl 7 P w).2) else sBad 1 i) else .inl (i, (stl 7 P w).1, true, (stl 7 P w).2)
def opd (o i : Nat) (P : List Nat) (w : CdL) : SRs := if opN P = 8 then sBad 3 i else .inl (i + 1, o :: P, false, w)
def bO (law : Nat) (cd nm : Nat → Nat) (i : Nat) (P : List Nat) (w : CdL) : SRs :=
  if cd i = 45 then (if 9999 < nm i then sBad 2 i else eO cd (i + 1) P ((0, nm i) :: w))
  else if cd i < 11 then (if nmOk law (cd i) = true then eO cd (i + 1) P ((1, cd i) :: w) else sBad 5 i)
  else if cd i = 40 then opd 40 i P w
  else if cd i = 37 then opd 5 i P w
  else if cd i = 21 then opd 41 i P w
  else if cd i = 23 then (if law = 0 then sBad 5 i else opd 2 i P w)
  else if cd i = 24 then opd 42 i P w
  else if cd i = 30 ∧ askA P = true then opd 20 i P w else sBad 1 i
def cmpO (c : Nat) : Nat := if c = 32 then 10 else if c = 43 then 11 else if c = 33 then 12 else if c = 44 then 13 else if c = 34 then 14 else if c = 35 then 15 else 0
def bTw (cd : Nat → Nat) (i : Nat) (P : List Nat) : Nat := if cd i = 36 then 6 else if cd i = 37 then 7 else if cd i = 38 then 8 else if cd i = 39 then 9 else if opn P = 42 then (if cmpd P = true then (if cd i = 29 then 21 else if cd i = 28 then 22 else 0) else cmpO (cd i)) else 0
/-- 0 none, 1 an end, else what the opening becomes -/
def prt (cd : Nat → Nat) (i : Nat) (P : List Nat) : Nat := if opn P = 40 then (if cd i = 41 then 1 else 0) else if opn P = 42 then (if cd i = 25 ∧ cmpd P = true then 43 else 0) else if opn P = 43 then (if cd i = 26 then 44 else 0) else if opn P = 44 then (if cd i = 27 then 1 else 0) else 0
def lsR (o : Nat) : Nat := if rkN o = 4 then 5 else rkN o
def hO (cd : Nat → Nat) (i : Nat) (P : List Nat) (w : CdL) : SRs := if bTw cd i P ≠ 0 then .inl (i + 1, bTw cd i P :: (stl (lsR (bTw cd i P)) P w).1, false, (stl (lsR (bTw cd i P)) P w).2)
  else if prt cd i P = 0 then (if opn P ≠ 0 then sBad 1 i else .inr (.inl ((stl 1 P w).2, i)))
  else if prt cd i P = 1 then eO cd (i + 1) (stl 1 P w).1.tail (if opn P = 44 then (3, 0) :: (stl 1 P w).2 else (stl 1 P w).2)
  else .inl (i + 1, prt cd i P :: (stl 1 P w).1.tail, false, (stl 1 P w).2)
def stP (law : Nat) (cd nm : Nat → Nat) (c : Cfg) : SRs := if c.2.2.1 = true then hO cd c.1 c.2.1 c.2.2.2 else bO law cd nm c.1 c.2.1 c.2.2.2
def rG (law : Nat) (cd nm : Nat → Nat) : Nat → Cfg → Option Fin2
  | 0, _ => none
  | n + 1, c => match stP law cd nm c with
    | .inl c' => rG law cd nm n c'
    | .inr r => some r
def Go (law : Nat) (cd nm : Nat → Nat) (c : Cfg) (r : Fin2) : Prop := ∃ n, rG law cd nm n c = some r
def GoS (law : Nat) (cd nm : Nat → Nat) : SRs → Fin2 → Prop
  | .inl c, r => Go law cd nm c r
  | .inr r', r => r' = r
theorem Go_s {law : Nat} {cd nm : Nat → Nat} {c : Cfg} {r : Fin2} {s : SRs} (e : stP law cd nm c = s) (H : GoS law cd nm s r) : Go law cd nm c r := by
  match s, e, H with
  | .inl c', e, ⟨n, H⟩ => exact ⟨n + 1, by rw [rG, e]; exact H⟩
  | .inr r', e, H => exact ⟨1, by rw [rG, e]; exact congrArg some H⟩
/-! what code comes to -/
abbrev EvS : Type := List Int × List Bool
def ev1 (law : Nat) (E : E1) (x : Nat × Nat) (s : EvS) : Option EvS :=
  if 20000 ≤ x.2 then none
  else if x.1 = 0 then some ((x.2 : Int) :: s.1, s.2)
  else if x.1 = 1 then (if nmOk law x.2 = true then some (E.1 x.2 :: s.1, s.2) else none)
  else if x.1 = 3 then (match s with
    | (a :: c :: q, tr :: tq) => some ((bif tr then c else a) :: q, tq)
    | _ => none)
  else if x.1 = 5 then (match s with
    | (a :: q, ts) => some (-a :: q, ts)
    | _ => none)
  else if x.1 = 2 then (if law = 0 then none else match s with
    | (a :: q, ts) => some (E.2 a :: q, ts)
    | _ => none)
  else if x.1 = 4 then (match s with
    | (a :: c :: q, ts) => some ((c + a).tdiv 2 :: q, ts)
    | _ => none)
  else if x.1 ≤ 9 then (match s with
    | (a :: c :: q, ts) => some (twZ x.1 c a :: q, ts)
    | _ => none)
  else if x.1 ≤ 15 then (match s with
    | (a :: c :: q, ts) => some (q, askZ x.1 c a :: ts)
    | _ => none)
  else if x.1 = 20 then (match s with
    | (vs, p :: q) => some (vs, (!p) :: q)
    | _ => none)
  else if x.1 = 21 ∨ x.1 = 22 then (match s with
    | (vs, p :: p2 :: q) => some (vs, (if x.1 = 21 then p2 && p else p2 || p) :: q)
    | _ => none)
  else none
def evR (law : Nat) (E : E1) : CdL → EvS → Option EvS
  | [], s => some s
  | x :: c, s => (evR law E c s).bind (ev1 law E x)
theorem evR_app {law : Nat} {E : E1} (a : CdL) {b : CdL} {s : EvS} : evR law E (a ++ b) s = (evR law E b s).bind (evR law E a) := by
  induction a with
  | nil => show evR law E b s = _; cases evR law E b s <;> rfl
  | cons x a ih =>
    show (evR law E (a ++ b) s).bind _ = _
    rw [ih]
    cases evR law E b s <;> rfl
def Mn (law : Nat) (seg : CdL) (f : E1 → Int) : Prop := ∀ E, eOK E → ∀ vs ts, evR law E seg (vs, ts) = some (f E :: vs, ts)
def MnB (law : Nat) (seg : CdL) (f : E1 → Int) : Prop := fC f ∧ ∀ E, eOK E → ∀ vs ts, evR law E seg (vs, ts) = some (vs, decide (f E = 1) :: ts)
def fl : List Nat → CdL → CdL
  | [], w => w
  | o :: P, w => fl P ((o, 0) :: w)
theorem fl_app (a b : List Nat) : ∀ w, fl (a ++ b) w = fl b (fl a w) := by
  induction a with
  | nil => exact fun w => rfl
  | cons o a ih => exact fun w => ih _
theorem fl_out (a : List Nat) (out : CdL) : ∀ w, fl a (w ++ out) = fl a w ++ out := by
  induction a with
  | nil => exact fun w => rfl
  | cons o a ih => exact fun w => ih ((o, 0) :: w)
theorem stl_fl {l : Nat} {P : List Nat} (hP : hdR P < l) (a : List Nat) : ∀ w, (∀ o ∈ a, l ≤ rkN o) → stl l (a ++ P) w = (P, fl a w) := by
  induction a with
  | nil =>
    intro w _
    match P, hP with
    | [], _ => rfl
    | o :: P, h => exact if_neg (by have : rkN o < l := h; omega)
  | cons o a ih =>
    intro w h
    show (if l ≤ rkN o then stl l (a ++ P) ((o, 0) :: w) else (o :: (a ++ P), w)) = _
    rw [if_pos (h o (by simp))]
    exact ih _ (fun x hx => h x (by simp [hx]))
theorem rk_lt {o : Nat} (h : 1 ≤ rkN o) : o < 40 := by
  unfold rkN at h
  split at h
  · omega
  · omega
theorem opn_app {P : List Nat} (a : List Nat) (h : ∀ o ∈ a, 1 ≤ rkN o) : opn (a ++ P) = opn P := by
  induction a with
  | nil => rfl
  | cons o a ih =>
    show (if 40 ≤ o then o else opn (a ++ P)) = opn P
    rw [if_neg (by have := rk_lt (h o (by simp)); omega)]
    exact ih (fun x hx => h x (by simp [hx]))
theorem cmpd_app {P : List Nat} (a : List Nat) (h : ∀ o ∈ a, 5 ≤ rkN o) : cmpd (a ++ P) = cmpd P := by
  induction a with
  | nil => rfl
  | cons o a ih =>
    show (if 4 < rkN o then cmpd (a ++ P) else decide (rkN o = 4)) = cmpd P
    rw [if_pos (by have := h o (by simp); omega)]
    exact ih (fun x hx => h x (by simp [hx]))
section MN
variable {law : Nat} {s1 s2 s3 : CdL} {f g q : E1 → Int}
theorem Mn_num {v : Nat} (hv : v ≤ 9999) : Mn law [(0, v)] (fun _ => (v : Int)) := fun E hE vs ts => by
  show ev1 law E (0, v) (vs, ts) = _
  unfold ev1
  rw [if_neg (by show ¬ 20000 ≤ v; omega), if_pos rfl]
theorem Mn_name {j : Nat} (h : nmOk law j = true) : Mn law [(1, j)] (fun E => E.1 j) := fun E hE vs ts => by
  show ev1 law E (1, j) (vs, ts) = _
  have := nmOk_lt h
  unfold ev1
  rw [if_neg (by show ¬ 20000 ≤ j; omega), if_neg (by show ¬ 1 = 0; decide), if_pos rfl]
  exact if_pos h
theorem Mn_neg (F : Mn law s1 f) : Mn law ((5, 0) :: s1) (fun E => -(f E)) := fun E hE vs ts => by
  show (evR law E s1 (vs, ts)).bind (ev1 law E (5, 0)) = _
  rw [F E hE]
  rfl
theorem Mn_light (F : Mn law s1 f) (h : law ≠ 0) : Mn law ((2, 0) :: s1) (fun E => E.2 (f E)) := fun E hE vs ts => by
  show (evR law E s1 (vs, ts)).bind (ev1 law E (2, 0)) = _
  rw [F E hE]
  show (if law = 0 then none else some (E.2 (f E) :: vs, ts)) = _
  exact if_neg h
theorem Mn_two {o sg : Nat} (ho : (o = 6 ∧ sg = 36) ∨ (o = 7 ∧ sg = 37) ∨ (o = 8 ∧ sg = 38) ∨ (o = 9 ∧ sg = 39) ∨ (o = 4 ∧ sg = 21)) (F : Mn law s1 f) (G : Mn law s2 g) : Mn law ((o, 0) :: (s2 ++ s1)) (bn sg f g) := fun E hE vs ts => by
  show (evR law E (s2 ++ s1) (vs, ts)).bind (ev1 law E (o, 0)) = _
  rw [evR_app, F E hE]
  show (evR law E s2 (f E :: vs, ts)).bind _ = _
  rw [G E hE]
  rcases ho with ⟨rfl, rfl⟩ | ⟨rfl, rfl⟩ | ⟨rfl, rfl⟩ | ⟨rfl, rfl⟩ | ⟨rfl, rfl⟩ <;> rfl
theorem Mn_cmp {c : Nat} (hc : cmpT c = true) (F : Mn law s1 f) (G : Mn law s2 g) : MnB law ((cmpO c, 0) :: (s2 ++ s1)) (bn c f g) := by
  have h := of_decide_eq_true hc
  refine ⟨bn_C (by omega), fun E hE vs ts => ?_⟩
  show (evR law E (s2 ++ s1) (vs, ts)).bind (ev1 law E (cmpO c, 0)) = _
  rw [evR_app, F E hE]
  show (evR law E s2 (f E :: vs, ts)).bind _ = _
  rw [G E hE]
  have b1 : ∀ (p : Prop) [Decidable p], decide (b01 p = 1) = decide p := fun p _ => by
    unfold b01
    by_cases c : p
    · rw [if_pos c]; simp [c]
    · rw [if_neg c]; simp [c]
  have h' : c = 32 ∨ c = 33 ∨ c = 34 ∨ c = 35 ∨ c = 43 ∨ c = 44 := by omega
  rcases h' with rfl | rfl | rfl | rfl | rfl | rfl
  all_goals
    refine congrArg (fun z => some (vs, z :: ts)) ?_
    exact (b1 _).symm
theorem Mn_not (F : MnB law s1 f) : MnB law ((20, 0) :: s1) (fun E => 1 - f E) := by
  refine ⟨fun E hE => ?_, fun E hE vs ts => ?_⟩
  · show 1 - f E = 0 ∨ 1 - f E = 1
    rcases F.1 E hE with q | q <;> rw [q] <;> decide
  · show (evR law E s1 (vs, ts)).bind (ev1 law E (20, 0)) = _
    rw [F.2 E hE]
    show some (vs, (!decide (f E = 1)) :: ts) = some (vs, decide (1 - f E = 1) :: ts)
    rcases F.1 E hE with q | q <;> rw [q] <;> rfl
theorem Mn_and (F : MnB law s1 f) (G : MnB law s2 g) : MnB law ((21, 0) :: (s2 ++ s1)) (bn 29 f g) := by
  refine ⟨bn_C (by omega), fun E hE vs ts => ?_⟩
  show (evR law E (s2 ++ s1) (vs, ts)).bind (ev1 law E (21, 0)) = _
  rw [evR_app, F.2 E hE]
  show (evR law E s2 (vs, _ :: ts)).bind _ = _
  rw [G.2 E hE]
  show some (vs, (decide (f E = 1) && decide (g E = 1)) :: ts) = some (vs, decide (jnZ 29 (f E) (g E) = 1) :: ts)
  rcases F.1 E hE with q | q <;> rcases G.1 E hE with q2 | q2 <;> rw [q, q2] <;> rfl
theorem Mn_or (F : MnB law s1 f) (G : MnB law s2 g) : MnB law ((22, 0) :: (s2 ++ s1)) (bn 28 f g) := by
  refine ⟨bn_C (by omega), fun E hE vs ts => ?_⟩
  show (evR law E (s2 ++ s1) (vs, ts)).bind (ev1 law E (22, 0)) = _
  rw [evR_app, F.2 E hE]
  show (evR law E s2 (vs, _ :: ts)).bind _ = _
  rw [G.2 E hE]
  show some (vs, (decide (f E = 1) || decide (g E = 1)) :: ts) = some (vs, decide (jnZ 28 (f E) (g E) = 1) :: ts)
  rcases F.1 E hE with q | q <;> rcases G.1 E hE with q2 | q2 <;> rw [q, q2] <;> rfl
theorem Mn_if (Q : MnB law s1 q) (F : Mn law s2 f) (G : Mn law s3 g) : Mn law ((3, 0) :: (s3 ++ (s2 ++ s1))) (fun E => if q E = 0 then g E else f E) := fun E hE vs ts => by
  show (evR law E (s3 ++ (s2 ++ s1)) (vs, ts)).bind (ev1 law E (3, 0)) = _
  rw [evR_app, evR_app, Q.2 E hE]
  show ((evR law E s2 (vs, _ :: ts)).bind _).bind _ = _
  rw [F E hE]
  show (evR law E s3 (_ :: vs, _ :: ts)).bind _ = _
  rw [G E hE]
  show some ((bif decide (q E = 1) then f E else g E) :: vs, ts) = some ((if q E = 0 then g E else f E) :: vs, ts)
  rcases Q.1 E hE with e | e <;> rw [e] <;> rfl
end MN
