/-! READING A SUM, PURE: what the tokens come to -/
/-- whole: what it means and the token behind it; or a fault at a token -/
abbrev Rs : Type := Sum ((E1 → Int) × Nat) (Nat × Nat)
abbrev rOk (f : E1 → Int) (j : Nat) : Option Rs := some (.inl (f, j))
abbrev rBad (c j : Nat) : Option Rs := some (.inr (c, j))
/-- then, if it is whole -/
def rB (r : Option Rs) (g : (E1 → Int) → Nat → Option Rs) : Option Rs := match r with
  | some (.inl (f, j)) => g f j
  | some (.inr x) => some (.inr x)
  | none => none
abbrev bn (sg : Nat) (f g : E1 → Int) : E1 → Int := fun E => jnZ sg (f E) (g E)
def cmpT (c : Nat) : Bool := decide ((32 ≤ c ∧ c ≤ 35) ∨ c = 43 ∨ c = 44)
/-- law: whose sum; cd, nm: the tokens' codes and numbers; what is read: 0 one, 1 a product, 2 a product goes on behind f, 3 a sum, 4 it goes on, 5 either, 6 it goes on, 7 both, 8 it goes on, 9 an ask -/
def pd (law : Nat) (cd nm : Nat → Nat) : Nat → Nat → (E1 → Int) → Nat → Nat → Option Rs
  | 0, _, _, _, _ => none
  | n + 1, 0, _, o, i =>
    if cd i = 45 then (if 9999 < nm i then rBad 2 i else rOk (fun _ => (nm i : Int)) (i + 1))
    else if cd i < 11 then (if nmOk law (cd i) = true then rOk (fun E => E.1 (cd i)) (i + 1) else rBad 5 i)
    else if cd i = 40 ∨ cd i = 37 ∨ cd i = 21 ∨ cd i = 23 ∨ cd i = 24 then
      if cd i = 23 ∧ law = 0 then rBad 5 i
      else if 8 ≤ o then rBad 3 i
      else if cd i = 40 then rB (pd law cd nm n 3 (fun _ => 0) (o + 1) (i + 1)) fun f j => if cd j = 41 then rOk f (j + 1) else rBad 1 j
      else if cd i = 37 then rB (pd law cd nm n 0 (fun _ => 0) (o + 1) (i + 1)) fun f j => rOk (fun E => -(f E)) j
      else if cd i = 21 then rB (pd law cd nm n 0 (fun _ => 0) (o + 1) (i + 1)) fun f j => if cd j = 22 then rB (pd law cd nm n 0 (fun _ => 0) (o + 1) (j + 1)) (fun g j2 => rOk (bn 21 f g) j2) else rBad 1 j
      else if cd i = 23 then rB (pd law cd nm n 0 (fun _ => 0) (o + 1) (i + 1)) fun f j => rOk (fun E => E.2 (f E)) j
      else rB (pd law cd nm n 5 (fun _ => 0) (o + 1) (i + 1)) fun q j => if cd j = 25 then rB (pd law cd nm n 3 (fun _ => 0) (o + 1) (j + 1)) (fun f j2 => if cd j2 = 26 then rB (pd law cd nm n 3 (fun _ => 0) (o + 1) (j2 + 1)) (fun g j3 => if cd j3 = 27 then rOk (fun E => if q E = 0 then g E else f E) (j3 + 1) else rBad 1 j3) else rBad 1 j2) else rBad 1 j
    else rBad 1 i
  | n + 1, 1, _, o, i => rB (pd law cd nm n 0 (fun _ => 0) o i) fun f j => pd law cd nm n 2 f o j
  | n + 1, 2, f, o, i => if cd i = 38 ∨ cd i = 39 then rB (pd law cd nm n 0 (fun _ => 0) o (i + 1)) (fun g j => pd law cd nm n 2 (bn (cd i) f g) o j) else rOk f i
  | n + 1, 3, _, o, i => rB (pd law cd nm n 1 (fun _ => 0) o i) fun f j => pd law cd nm n 4 f o j
  | n + 1, 4, f, o, i => if cd i = 36 ∨ cd i = 37 then rB (pd law cd nm n 1 (fun _ => 0) o (i + 1)) (fun g j => pd law cd nm n 4 (bn (cd i) f g) o j) else rOk f i
  | n + 1, 5, _, o, i => rB (pd law cd nm n 7 (fun _ => 0) o i) fun f j => pd law cd nm n 6 f o j
  | n + 1, 6, f, o, i => if cd i = 28 then rB (pd law cd nm n 7 (fun _ => 0) o (i + 1)) (fun g j => pd law cd nm n 6 (bn 28 f g) o j) else rOk f i
  | n + 1, 7, _, o, i => rB (pd law cd nm n 9 (fun _ => 0) o i) fun f j => pd law cd nm n 8 f o j
  | n + 1, 8, f, o, i => if cd i = 29 then rB (pd law cd nm n 9 (fun _ => 0) o (i + 1)) (fun g j => pd law cd nm n 8 (bn 29 f g) o j) else rOk f i
  | n + 1, _, _, o, i =>
    if cd i = 30 then (if 8 ≤ o then rBad 3 i else rB (pd law cd nm n 9 (fun _ => 0) (o + 1) (i + 1)) fun f j => rOk (fun E => 1 - f E) j)
    else rB (pd law cd nm n 3 (fun _ => 0) o i) fun f j => if cmpT (cd j) = true then rB (pd law cd nm n 3 (fun _ => 0) o (j + 1)) (fun g j2 => rOk (bn (cd j) f g) j2) else rBad 1 j
