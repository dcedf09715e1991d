/-! THE REFERENCE READS as pd says -/
def KRp (law : Nat) (cd nm : Nat → Nat) (lo : Nat) (cnd : Bool) (P : List Nat) (c0 : CdL → Cfg) : Rs → Prop
  | .inl (f, j) => ∃ (pend : List Nat) (outS : CdL), (∀ o ∈ pend, lo ≤ rkN o) ∧ (if cnd = true then (∀ P', cmpd (pend ++ P') = true) ∧ MnB law (fl pend outS) f else Mn law (fl pend outS) f) ∧ ∀ out res, Go law cd nm (j, pend ++ P, true, outS ++ out) res → Go law cd nm (c0 out) res
  | .inr (c, j) => ∀ out, Go law cd nm (c0 out) (.inr (c, j))
theorem KR_pre {law : Nat} {cd nm : Nat → Nat} {lo : Nat} {cnd : Bool} {P : List Nat} {c0 c1 : CdL → Cfg} {r : Rs} (out' : CdL → CdL) (H : KRp law cd nm lo cnd P c1 r) (h : ∀ out res, Go law cd nm (c1 out) res → Go law cd nm (c0 out) res) : KRp law cd nm lo cnd P c0 r := by
  match r, H with
  | .inl (f, j), ⟨pend, outS, a, b, c⟩ => exact ⟨pend, outS, a, b, fun out res g => h out res (c out res g)⟩
  | .inr (c, j), H => exact fun out => h out _ (H out)
def K0p (law : Nat) (cd nm : Nat → Nat) (m : Nat) : Prop := ∀ (f0 : E1 → Int) (o i : Nat) (P : List Nat) (r : Rs), pd law cd nm m 0 f0 o i = some r → opN P = o → o ≤ 8 → (askA P = false ∨ cd i ≠ 30) → match r with
  | .inl (f, j) => ∃ seg, Mn law seg f ∧ ∀ out res, GoS law cd nm (eO cd j P (seg ++ out)) res → Go law cd nm (i, P, false, out) res
  | .inr (c, j) => ∀ out, Go law cd nm (i, P, false, out) (.inr (c, j))
/-- a product, a sum: kind g, its loop g + 1 -/
def KEp (law : Nat) (cd nm : Nat → Nat) (g lo : Nat) (m : Nat) : Prop := ∀ (f0 : E1 → Int) (o i : Nat) (P : List Nat) (r : Rs), pd law cd nm m g f0 o i = some r → opN P = o → o ≤ 8 → (askA P = false ∨ cd i ≠ 30) → hdR P < lo → P.headD 0 ≠ 41 → KRp law cd nm lo false P (fun out => (i, P, false, out)) r
def KLp (law : Nat) (cd nm : Nat → Nat) (g lo : Nat) (m : Nat) : Prop := ∀ (f : E1 → Int) (o i : Nat) (P : List Nat) (r : Rs) (pend : List Nat) (outS : CdL), pd law cd nm m g f o i = some r → opN P = o → o ≤ 8 → hdR P < lo → (∀ o ∈ pend, lo ≤ rkN o) → Mn law (fl pend outS) f → KRp law cd nm lo false P (fun out => (i, pend ++ P, true, outS ++ out)) r
/-- asks -/
def KAp (law : Nat) (cd nm : Nat → Nat) (g lo : Nat) (m : Nat) : Prop := ∀ (f0 : E1 → Int) (o i : Nat) (P : List Nat) (r : Rs), pd law cd nm m g f0 o i = some r → opN P = o → o ≤ 8 → hdR P < lo + (if lo = 3 then 1 else 0) → opn P = 42 → KRp law cd nm lo true P (fun out => (i, P, false, out)) r
def KBp (law : Nat) (cd nm : Nat → Nat) (g lo : Nat) (m : Nat) : Prop := ∀ (f : E1 → Int) (o i : Nat) (P : List Nat) (r : Rs) (pend : List Nat) (outS : CdL), pd law cd nm m g f o i = some r → opN P = o → o ≤ 8 → hdR P < lo → opn P = 42 → (∀ o ∈ pend, lo ≤ rkN o) → (∀ P', cmpd (pend ++ P') = true) → MnB law (fl pend outS) f → KRp law cd nm lo true P (fun out => (i, pend ++ P, true, outS ++ out)) r
theorem eO_no {cd : Nat → Nat} {i : Nat} {P : List Nat} {w : CdL} (h : hdR P < 7) (h2 : P.headD 0 ≠ 41) : eO cd i P w = .inl (i, P, true, w) := by
  have e : stl 7 P w = (P, w) := stl_fl h [] w (by simp)
  unfold eO
  rw [e, if_neg h2]
theorem eO_pop {cd : Nat → Nat} {i o : Nat} {P : List Nat} {w : CdL} (h : rkN o = 7) : eO cd i (o :: P) w = eO cd i P ((o, 0) :: w) := by
  have e : stl 7 (o :: P) w = stl 7 P ((o, 0) :: w) := if_pos (by omega)
  unfold eO
  rw [e]
section KK
variable {law : Nat} {cd nm : Nat → Nat}
theorem b_op {i : Nat} {P a : List Nat} {w : CdL} (hb : bTw cd i (a ++ P) ≠ 0) (ha : ∀ o ∈ a, lsR (bTw cd i (a ++ P)) ≤ rkN o) (hP : hdR P < lsR (bTw cd i (a ++ P))) : stP law cd nm (i, a ++ P, true, w) = .inl (i + 1, bTw cd i (a ++ P) :: P, false, fl a w) := by
  show hO cd i (a ++ P) w = _
  unfold hO
  rw [if_pos hb, stl_fl hP a w ha]
/-- loops of products and sums -/
theorem kl_lp {g lo s1 s2 o1 o2 g1 : Nat} (m : Nat) (hpd : ∀ f o i, pd law cd nm (m + 1) g f o i = if cd i = s1 ∨ cd i = s2 then rB (pd law cd nm m g1 (fun _ => 0) o (i + 1)) (fun g' j => pd law cd nm m g (bn (cd i) f g') o j) else rOk f i)
    (hs : (lo = 6 ∧ s1 = 38 ∧ s2 = 39 ∧ o1 = 8 ∧ o2 = 9) ∨ (lo = 5 ∧ s1 = 36 ∧ s2 = 37 ∧ o1 = 6 ∧ o2 = 7))
    (I1 : ∀ (o i : Nat) (P : List Nat) (r : Rs), pd law cd nm m g1 (fun _ => 0) o i = some r → opN P = o → o ≤ 8 → askA P = false → rkN (P.headD 40) = lo → KRp law cd nm (lo + 1) false P (fun out => (i, P, false, out)) r) (I2 : KLp law cd nm g lo m) : KLp law cd nm g lo (m + 1) := by
  intro f o i P r pend outS hp ho h8 hP hpn F
  rw [hpd] at hp
  by_cases q : cd i = s1 ∨ cd i = s2
  · rw [if_pos q] at hp
    obtain ⟨oo, e1, e2, e3, e4⟩ : ∃ oo, bTw cd i (pend ++ P) = oo ∧ rkN oo = lo ∧ oo < 40 ∧ (oo ≠ 0 ∧ isO oo = false ∧ ((oo = 6 ∧ cd i = 36) ∨ (oo = 7 ∧ cd i = 37) ∨ (oo = 8 ∧ cd i = 38) ∨ (oo = 9 ∧ cd i = 39))) := by
      have h4 : cd i = 36 ∨ cd i = 37 ∨ cd i = 38 ∨ cd i = 39 := by omega
      unfold bTw
      rcases h4 with e | e | e | e
      · rw [e]
        refine ⟨6, rfl, ?_, by decide, by decide, by decide, by omega⟩
        rcases hs with ⟨rfl, h⟩ | ⟨rfl, h⟩
        · first | rfl | (exfalso; omega)
        · first | rfl | (exfalso; omega)
      · rw [e]
        refine ⟨7, rfl, ?_, by decide, by decide, by decide, by omega⟩
        rcases hs with ⟨rfl, h⟩ | ⟨rfl, h⟩
        · first | rfl | (exfalso; omega)
        · first | rfl | (exfalso; omega)
      · rw [e]
        refine ⟨8, rfl, ?_, by decide, by decide, by decide, by omega⟩
        rcases hs with ⟨rfl, h⟩ | ⟨rfl, h⟩
        · first | rfl | (exfalso; omega)
        · first | rfl | (exfalso; omega)
      · rw [e]
        refine ⟨9, rfl, ?_, by decide, by decide, by decide, by omega⟩
        rcases hs with ⟨rfl, h⟩ | ⟨rfl, h⟩
        · first | rfl | (exfalso; omega)
        · first | rfl | (exfalso; omega)
    have el : lsR oo = lo := by unfold lsR; rw [e2, if_neg (by omega)]
    have st : ∀ out, stP law cd nm (i, pend ++ P, true, outS ++ out) = .inl (i + 1, oo :: P, false, fl pend outS ++ out) := fun out => by
      rw [b_op (by rw [e1]; exact e4.1) (by rw [e1, el]; exact hpn) (by rw [e1, el]; exact hP), e1, fl_out]
    have oN : opN (oo :: P) = o := by show opN P + (if isO oo = true then 1 else 0) = o; rw [e4.2.1]; exact ho
    have hA : askA (oo :: P) = false := by
      show decide _ = false
      refine decide_eq_false ?_
      intro z
      omega
    rcases rB_cases hp with ⟨g', j, p1, p2⟩ | ⟨c', j, p1, rfl⟩
    · obtain ⟨pe, ou, a1, a2, a3⟩ := I1 o (i + 1) (oo :: P) _ p1 oN h8 hA e2
      have a2' : Mn law (fl pe ou) g' := a2
      have M : Mn law (fl (pe ++ [oo]) (ou ++ fl pend outS)) (bn (cd i) f g') := by
        rw [fl_app, fl_out]
        exact Mn_two (by omega) F a2'
      have K := I2 _ o j P r (pe ++ [oo]) (ou ++ fl pend outS) p2 ho h8 hP (fun x hx => by
        rcases List.mem_append.mp hx with z | z
        · have := a1 x z; omega
        · have : x = oo := by simpa using z
          subst this; omega) M
      refine KR_pre id K (fun out res G => Go_s (st out) (a3 (fl pend outS ++ out) res ?_))
      have e : pe ++ [oo] ++ P = pe ++ oo :: P := by simp
      have e' : ou ++ fl pend outS ++ out = ou ++ (fl pend outS ++ out) := by simp
      show Go law cd nm (j, pe ++ oo :: P, true, ou ++ (fl pend outS ++ out)) res
      rw [← e, ← e']
      exact G
    · intro out
      exact Go_s (st out) (I1 o (i + 1) (oo :: P) _ p1 oN h8 hA e2 _)
  · rw [if_neg q] at hp
    obtain rfl := Option.some.inj hp
    exact ⟨pend, outS, hpn, F, fun out res G => G⟩
/-- one, as a product's beginning: behind it nothing waits -/
theorem k_oneP {m : Nat} (I0 : K0p law cd nm m) {f0 : E1 → Int} {o i : Nat} {P : List Nat} {r : Rs} (hp : pd law cd nm m 0 f0 o i = some r) (ho : opN P = o) (h8 : o ≤ 8) (hA : askA P = false ∨ cd i ≠ 30) (hP : hdR P < 7) (h41 : P.headD 0 ≠ 41) : KRp law cd nm 7 false P (fun out => (i, P, false, out)) r := by
  have K := I0 f0 o i P r hp ho h8 hA
  match r, K with
  | .inl (f, j), ⟨seg, a, b⟩ => exact ⟨[], seg, by simp, a, fun out res G => b out res (by rw [eO_no hP h41]; exact G)⟩
  | .inr (c, j), K => exact K
theorem KR_lo {lo lo' : Nat} {cnd : Bool} {P : List Nat} {c0 : CdL → Cfg} {r : Rs} (H : KRp law cd nm lo cnd P c0 r) (h : lo' ≤ lo) : KRp law cd nm lo' cnd P c0 r := by
  match r, H with
  | .inl (f, j), ⟨pend, outS, a, b, c⟩ => exact ⟨pend, outS, fun o ho => by have := a o ho; omega, b, c⟩
  | .inr (c, j), H => exact H
theorem rk_hd {P : List Nat} {l : Nat} (h : rkN (P.headD 40) = l) : hdR P ≤ l := by
  match P, h with
  | [], _ => exact Nat.zero_le _
  | o :: P, h => exact Nat.le_of_eq h
theorem hd_41 {P : List Nat} {l : Nat} (h : rkN (P.headD 40) = l) (hl : 1 ≤ l) : P.headD 0 ≠ 41 := by
  match P, h with
  | [], _ => exact (by decide : ¬ (0 : Nat) = 41)
  | o :: P, h =>
    intro e
    have e' : o = 41 := e
    subst e'
    have h1 : rkN 41 = l := h
    have h2 : rkN 41 = 0 := rfl
    omega
theorem kl_2 (m : Nat) (I0 : K0p law cd nm m) (I2 : KLp law cd nm 2 6 m) : KLp law cd nm 2 6 (m + 1) := kl_lp (s1 := 38) (s2 := 39) (o1 := 8) (o2 := 9) (g1 := 0) m (fun f o i => by rw [pd]) (by omega) (fun o i P r hp ho h8 hA hk => k_oneP I0 hp ho h8 (Or.inl hA) (by have := rk_hd hk; omega) (hd_41 hk (by omega))) I2
theorem ke_1 (m : Nat) (I0 : K0p law cd nm m) (I2 : KLp law cd nm 2 6 m) : KEp law cd nm 1 6 (m + 1) := by
  intro f0 o i P r hp ho h8 hA hP h41
  rw [pd] at hp
  rcases rB_cases hp with ⟨f, j, p1, p2⟩ | ⟨c', j, p1, rfl⟩
  · obtain ⟨pe, ou, a1, a2, a3⟩ := k_oneP I0 p1 ho h8 hA (by omega) h41
    exact KR_pre id (I2 f o j P r pe ou p2 ho h8 hP (fun x hx => by have := a1 x hx; omega) a2) (fun out res G => a3 out res G)
  · exact k_oneP I0 p1 ho h8 hA (by omega) h41
theorem kl_4 (m : Nat) (I1 : KEp law cd nm 1 6 m) (I2 : KLp law cd nm 4 5 m) : KLp law cd nm 4 5 (m + 1) := kl_lp (s1 := 36) (s2 := 37) (o1 := 6) (o2 := 7) (g1 := 1) m (fun f o i => by rw [pd]) (by omega) (fun o i P r hp ho h8 hA hk => I1 _ o i P r hp ho h8 (Or.inl hA) (by have := rk_hd hk; omega) (hd_41 hk (by omega))) I2
theorem ke_3 (m : Nat) (I1 : KEp law cd nm 1 6 m) (I2 : KLp law cd nm 4 5 m) : KEp law cd nm 3 5 (m + 1) := by
  intro f0 o i P r hp ho h8 hA hP h41
  rw [pd] at hp
  rcases rB_cases hp with ⟨f, j, p1, p2⟩ | ⟨c', j, p1, rfl⟩
  · obtain ⟨pe, ou, a1, a2, a3⟩ := I1 _ o i P _ p1 ho h8 hA (by omega) h41
    exact KR_pre id (I2 f o j P r pe ou p2 ho h8 hP (fun x hx => by have := a1 x hx; omega) a2) (fun out res G => a3 out res G)
  · exact I1 _ o i P _ p1 ho h8 hA (by omega) h41
end KK
