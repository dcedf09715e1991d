/-! THE LAWS' CODE: the class's, step by step -/
abbrev E1 : Type := (Nat → Int) × (Int → Int)
def eOK (E : E1) : Prop := (∀ j, -1000000 ≤ E.1 j ∧ E.1 j ≤ 1000000) ∧ ∀ x, -1000000 ≤ E.2 x ∧ E.2 x ≤ 1000000
def nmOk (law j : Nat) : Bool := decide (j < 3 ∨ (j < 6 ∧ law = 0) ∨ (j = 6 ∧ law ≠ 1) ∨ (6 < j ∧ j < 9 ∧ law = 1) ∨ (8 < j ∧ j < 11 ∧ law = 2))
theorem nmOk_lt {law j : Nat} (h : nmOk law j = true) : j < 11 := by
  have := of_decide_eq_true h
  omega
abbrev V1 : Type := Nat × Int × List Int
def S1n (law : Nat) (cd : Nat → Int32) (E : E1) (i : Nat) (v : Int) (stk : List Int) (b : V1) : Prop := ∃ sg nu : Nat, sg < 64 ∧ nu < 20000 ∧ cd i = nI (nu * 64 + sg) ∧ stk.length < 62 ∧
  ((sg = 26 ∧ i < nu ∧ b = (nu, v, stk)) ∨
   (sg = 24 ∧ i < nu ∧ ∃ y q, stk = y :: q ∧ b = ((if v = 0 then nu else i + 1), y, q)) ∨
   (sg = 48 ∧ b = (i + 1, -v, stk)) ∨
   (sg = 30 ∧ (v = 0 ∨ v = 1) ∧ b = (i + 1, 1 - v, stk)) ∨
   (sg < 11 ∧ nmOk law sg = true ∧ b = (i + 1, E.1 sg, v :: stk)) ∨
   (sg = 45 ∧ b = (i + 1, (nu : Int), v :: stk)) ∨
   (∃ y q, stk = y :: q ∧ jnOk sg y v ∧ b = (i + 1, jnZ sg y v, q)))
def S1l (law : Nat) (cd : Nat → Int32) (E : E1) (i : Nat) (v : Int) (stk : List Int) (b : V1) : Prop := ∃ nu : Nat, nu < 20000 ∧ cd i = nI (nu * 64 + 23) ∧ stk.length < 62 ∧ law ≠ 0 ∧ b = (i + 1, E.2 v, stk)
def Run1 (law : Nat) (cd : Nat → Int32) (E : E1) (e : Nat) : Nat → V1 → V1 → Prop
  | 0, a, b => a = b
  | n + 1, a, b => a.1 < e ∧ ∃ c, (S1n law cd E a.1 a.2.1 a.2.2 c ∨ S1l law cd E a.1 a.2.1 a.2.2 c) ∧ Run1 law cd E e n c b
def sR : List Int → (Nat → Int32) → Prop
  | [], _ => True
  | x :: q, F => F q.length = iI x ∧ (-1000000 ≤ x ∧ x ≤ 1000000) ∧ sR q F
theorem sR_up {q : List Int} {F : Nat → Int32} {k : Nat} {v : Int32} (hk : q.length ≤ k) (h : sR q F) : sR q (va_up F k v) := by
  induction q with
  | nil => trivial
  | cons x q ih =>
    have hk' : q.length + 1 ≤ k := hk
    refine ⟨?_, h.2.1, ih (by omega) h.2.2⟩
    rw [va_up_ne _ _ (by omega)]
    exact h.1
/-- a segment of code that leaves the value f behind -/
def Sg1 (law : Nat) (f : E1 → Int) (cd : Nat → Int32) (s e D : Nat) : Prop := ∀ E, eOK E → ∀ v stk, (-1000000 ≤ v ∧ v ≤ 1000000) → stk.length + D ≤ 61 → ∃ n, Run1 law cd E e n (s, v, stk) (e, f E, v :: stk)
def fB (f : E1 → Int) : Prop := ∀ E, eOK E → -1000000 ≤ f E ∧ f E ≤ 1000000
theorem tx_t {L t x : Nat} (hx : x < t) : (lyMe L t).2.2 (98 + 7 * x) = (10, 8) := by
  show (bif Nat.ble 98 (98 + 7 * x) then (bif Nat.blt (98 + 7 * x) (98 + 7 * t) then lyT ((98 + 7 * x - 98) % 7) else (99, 0)) else lyB L (98 + 7 * x)) = (10, 8)
  rw [show Nat.ble 98 (98 + 7 * x) = true from Nat.ble_eq_true_of_le (by omega), bltT (by omega), show (98 + 7 * x - 98) % 7 = 0 by omega]
  rfl
theorem tx_1 {L t x : Nat} (hx : x < t) : (lyMe L t).2.2 (98 + 7 * x + 1) = (20, 24) := by
  show (bif Nat.ble 98 (98 + 7 * x + 1) then (bif Nat.blt (98 + 7 * x + 1) (98 + 7 * t) then lyT ((98 + 7 * x + 1 - 98) % 7) else (99, 0)) else lyB L (98 + 7 * x + 1)) = (20, 24)
  rw [show Nat.ble 98 (98 + 7 * x + 1) = true from Nat.ble_eq_true_of_le (by omega), bltT (by omega), show (98 + 7 * x + 1 - 98) % 7 = 1 by omega]
  rfl
theorem tx_2 {L t x : Nat} (hx : x < t) : (lyMe L t).2.2 (98 + 7 * x + 2) = (20, 24) := by
  show (bif Nat.ble 98 (98 + 7 * x + 2) then (bif Nat.blt (98 + 7 * x + 2) (98 + 7 * t) then lyT ((98 + 7 * x + 2 - 98) % 7) else (99, 0)) else lyB L (98 + 7 * x + 2)) = (20, 24)
  rw [show Nat.ble 98 (98 + 7 * x + 2) = true from Nat.ble_eq_true_of_le (by omega), bltT (by omega), show (98 + 7 * x + 2 - 98) % 7 = 2 by omega]
  rfl
theorem tx_3 {L t x : Nat} (hx : x < t) : (lyMe L t).2.2 (98 + 7 * x + 3) = (20, 24) := by
  show (bif Nat.ble 98 (98 + 7 * x + 3) then (bif Nat.blt (98 + 7 * x + 3) (98 + 7 * t) then lyT ((98 + 7 * x + 3 - 98) % 7) else (99, 0)) else lyB L (98 + 7 * x + 3)) = (20, 24)
  rw [show Nat.ble 98 (98 + 7 * x + 3) = true from Nat.ble_eq_true_of_le (by omega), bltT (by omega), show (98 + 7 * x + 3 - 98) % 7 = 3 by omega]
  rfl
theorem tx_4 {L t x : Nat} (hx : x < t) : (lyMe L t).2.2 (98 + 7 * x + 4) = (20, 300) := by
  show (bif Nat.ble 98 (98 + 7 * x + 4) then (bif Nat.blt (98 + 7 * x + 4) (98 + 7 * t) then lyT ((98 + 7 * x + 4 - 98) % 7) else (99, 0)) else lyB L (98 + 7 * x + 4)) = (20, 300)
  rw [show Nat.ble 98 (98 + 7 * x + 4) = true from Nat.ble_eq_true_of_le (by omega), bltT (by omega), show (98 + 7 * x + 4 - 98) % 7 = 4 by omega]
  rfl
theorem tx_5 {L t x : Nat} (hx : x < t) : (lyMe L t).2.2 (98 + 7 * x + 5) = (20, 3) := by
  show (bif Nat.ble 98 (98 + 7 * x + 5) then (bif Nat.blt (98 + 7 * x + 5) (98 + 7 * t) then lyT ((98 + 7 * x + 5 - 98) % 7) else (99, 0)) else lyB L (98 + 7 * x + 5)) = (20, 3)
  rw [show Nat.ble 98 (98 + 7 * x + 5) = true from Nat.ble_eq_true_of_le (by omega), bltT (by omega), show (98 + 7 * x + 5 - 98) % 7 = 5 by omega]
  rfl
theorem tx_6 {L t x : Nat} (hx : x < t) : (lyMe L t).2.2 (98 + 7 * x + 6) = (20, 3) := by
  show (bif Nat.ble 98 (98 + 7 * x + 6) then (bif Nat.blt (98 + 7 * x + 6) (98 + 7 * t) then lyT ((98 + 7 * x + 6 - 98) % 7) else (99, 0)) else lyB L (98 + 7 * x + 6)) = (20, 3)
  rw [show Nat.ble 98 (98 + 7 * x + 6) = true from Nat.ble_eq_true_of_le (by omega), bltT (by omega), show (98 + 7 * x + 6 - 98) % 7 = 6 by omega]
  rfl
theorem tx_r {lt rt rp : Option Nat} {sw : Bool} {t x : Nat} (hx : x < t) : lyR lt rt rp sw t (98 + 7 * x) = lyRT (98 + 7 * x) := by
  show (bif Nat.ble 98 (98 + 7 * x) then (bif Nat.blt (98 + 7 * x) (98 + 7 * t) && Nat.beq ((98 + 7 * x - 98) % 7) 0 then lyRT (98 + 7 * x) else (fun _ => none)) else lyRB lt rt rp sw t (98 + 7 * x)) = lyRT (98 + 7 * x)
  rw [show Nat.ble 98 (98 + 7 * x) = true from Nat.ble_eq_true_of_le (by omega), bltT (by omega), show (98 + 7 * x - 98) % 7 = 0 by omega]
  rfl
theorem tx_r0 {lt rt rp : Option Nat} {sw : Bool} {t x : Nat} (hx : x < t) : lyR lt rt rp sw t (98 + 7 * x) 0 = some (98 + 7 * x + 1) := by rw [tx_r hx]; rfl
theorem tx_r1 {lt rt rp : Option Nat} {sw : Bool} {t x : Nat} (hx : x < t) : lyR lt rt rp sw t (98 + 7 * x) 1 = some (98 + 7 * x + 2) := by rw [tx_r hx]; rfl
theorem tx_r2 {lt rt rp : Option Nat} {sw : Bool} {t x : Nat} (hx : x < t) : lyR lt rt rp sw t (98 + 7 * x) 2 = some (98 + 7 * x + 3) := by rw [tx_r hx]; rfl
theorem tx_r4 {lt rt rp : Option Nat} {sw : Bool} {t x : Nat} (hx : x < t) : lyR lt rt rp sw t (98 + 7 * x) 4 = some (98 + 7 * x + 4) := by rw [tx_r hx]; rfl
theorem tx_r6 {lt rt rp : Option Nat} {sw : Bool} {t x : Nat} (hx : x < t) : lyR lt rt rp sw t (98 + 7 * x) 6 = some (98 + 7 * x + 5) := by rw [tx_r hx]; rfl
theorem tx_r7 {lt rt rp : Option Nat} {sw : Bool} {t x : Nat} (hx : x < t) : lyR lt rt rp sw t (98 + 7 * x) 7 = some (98 + 7 * x + 6) := by rw [tx_r hx]; rfl
theorem tx_n6 {x : Nat} : Nat.beq (98 + 7 * x) 6 = false := beqF (by omega)
section K1
variable {L t : Nat} {lt rt rp : Option Nat} {sw : Bool} {h : Nat → Nat → Int32} {gl : Nat → Nat → Int64}
theorem k1_33 (x : Nat) (hx : x < t) (law e : Nat) (E : E1) (hE : eOK E) (hN : ∀ j, nmOk law j = true → h 35 j = iI (E.1 j)) (i : Nat) (v : Int) (stk : List Int) (b : V1) (F : Nat → Int32) (hi : i < e) (he : e ≤ 300) (hS : S1n law (h (98 + 7 * x + 4)) E i v stk b) (hv : -1000000 ≤ v ∧ v ≤ 1000000) (hF : sR stk F) : ∃ F', sR b.2.2 F' ∧ (-1000000 ≤ b.2.1 ∧ b.2.1 ≤ 1000000) ∧ ∀ (r : Option Value × mvSt) y8 y9, (∀ y8 y9, avA 1 105 33 [.ref 33, .ref (98 + 7 * x), .int (nI law), .null, .int (iI b.2.1), .int (nI b.2.2.length), .int (nI e), .int (nI b.1), y8, y9] [] (sX L t lt rt rp sw (va_up h 34 F') gl) r) → avA 1 105 33 [.ref 33, .ref (98 + 7 * x), .int (nI law), .null, .int (iI v), .int (nI stk.length), .int (nI e), .int (nI i), y8, y9] [] (sX L t lt rt rp sw (va_up h 34 F) gl) r := by
  obtain ⟨sg, nu, g1, g2, g3, g4, C⟩ := hS
  have cd : (va_up h 34 F) (98 + 7 * x + 4) i = nI (nu * 64 + sg) := by rw [va_up_ne _ _ (by omega)]; exact g3
  have sgE : nI (nu * 64 + sg) &&& nI 63 = nI sg := by rw [pk_andN (by omega) 6 (by decide)]; congr 1; omega
  have nuE : nI (nu * 64 + sg) >>> (nI 6 &&& 31) = nI nu := by rw [pk_shrN (by omega) _ 6 (by decide)]; congr 1; omega
  rcases C with ⟨rfl, c2, rfl⟩ | ⟨rfl, c2, y, q, rfl, rfl⟩ | ⟨rfl, rfl⟩ | ⟨rfl, c2, rfl⟩ | ⟨c1, c2, rfl⟩ | ⟨rfl, rfl⟩ | ⟨y, q, rfl, c2, rfl⟩
  · refine ⟨F, hF, hv, fun r y8 y9 Z => ?_⟩
    refine a_iload_7 rfl rfl ?_
    refine a_iload_6 rfl rfl ?_
    refine a_cmpN_ge rfl rfl rfl (by omega) (by omega) (fun c_37 => False.elim (by omega)) (fun _ => ?_)
    refine a_aload_1 rfl rfl ?_
    refine a_getr rfl rfl (congrArg Prod.fst (tx_t hx)) (fun _ _ _ => rfl) (tx_r4 hx) ?_
    refine a_iload_7 rfl rfl ?_
    refine a_iald rfl rfl (Or.inl (tx_4 hx)) rfl (by omega) (by decide) ?_
    refine a_as (y := nI (nu * 64 + 26)) cd ?_
    refine a_bipush (v := (nI 63)) rfl rfl rfl ?_
    refine a_iand rfl rfl ?_
    refine a_as (y := nI (26)) sgE ?_
    refine a_istore_8 rfl rfl rfl ?_
    refine a_aload_1 rfl rfl ?_
    refine a_getr rfl rfl (congrArg Prod.fst (tx_t hx)) (fun _ _ _ => rfl) (tx_r4 hx) ?_
    refine a_iload_7 rfl rfl ?_
    refine a_iald rfl rfl (Or.inl (tx_4 hx)) rfl (by omega) (by decide) ?_
    refine a_as (y := nI (nu * 64 + 26)) cd ?_
    refine a_bipush (v := (nI 6)) rfl rfl rfl ?_
    refine a_ishr rfl rfl ?_
    refine a_as (y := nI (nu)) nuE ?_
    refine a_istore_9 rfl rfl rfl ?_
    refine a_iload_8 rfl rfl ?_
    refine a_look (n := 116) rfl rfl ?_
    refine a_iload_7 rfl rfl ?_
    refine a_iload_9 rfl rfl ?_
    refine a_iconst (v := (nI 1)) rfl rfl rfl ?_
    refine a_isubN rfl rfl (by omega) ?_
    refine a_maxN rfl rfl (Nat.le_of_ble_eq_true rfl) (by omega) (by omega) ?_
    refine a_as (y := nI (nu - 1)) (congrArg nI (by omega)) ?_
    refine a_istore_7 rfl rfl rfl ?_
    refine a_goto rfl rfl ?_
    refine a_iinc_7 rfl rfl (by rw [nI_inc]; congr 1; omega : nI (nu - 1) + Int32.ofInt ((1 : Nat) : Int) = nI nu) rfl ?_
    refine a_goto rfl rfl ?_
    exact Z _ _
  · refine ⟨F, hF.2.2, hF.2.1, fun r y8 y9 Z => ?_⟩
    have hl : (y :: q).length = q.length + 1 := rfl
    rw [hl] at g4 ⊢
    by_cases hv0 : v = 0
    · rw [if_pos hv0] at Z
      refine a_iload_7 rfl rfl ?_
      refine a_iload_6 rfl rfl ?_
      refine a_cmpN_ge rfl rfl rfl (by omega) (by omega) (fun c_37 => False.elim (by omega)) (fun _ => ?_)
      refine a_aload_1 rfl rfl ?_
      refine a_getr rfl rfl (congrArg Prod.fst (tx_t hx)) (fun _ _ _ => rfl) (tx_r4 hx) ?_
      refine a_iload_7 rfl rfl ?_
      refine a_iald rfl rfl (Or.inl (tx_4 hx)) rfl (by omega) (by decide) ?_
      refine a_as (y := nI (nu * 64 + 24)) cd ?_
      refine a_bipush (v := (nI 63)) rfl rfl rfl ?_
      refine a_iand rfl rfl ?_
      refine a_as (y := nI (24)) sgE ?_
      refine a_istore_8 rfl rfl rfl ?_
      refine a_aload_1 rfl rfl ?_
      refine a_getr rfl rfl (congrArg Prod.fst (tx_t hx)) (fun _ _ _ => rfl) (tx_r4 hx) ?_
      refine a_iload_7 rfl rfl ?_
      refine a_iald rfl rfl (Or.inl (tx_4 hx)) rfl (by omega) (by decide) ?_
      refine a_as (y := nI (nu * 64 + 24)) cd ?_
      refine a_bipush (v := (nI 6)) rfl rfl rfl ?_
      refine a_ishr rfl rfl ?_
      refine a_as (y := nI (nu)) nuE ?_
      refine a_istore_9 rfl rfl rfl ?_
      refine a_iload_8 rfl rfl ?_
      refine a_look (n := 130) rfl rfl ?_
      refine a_iload_4 rfl rfl ?_
      refine a_ifI_ne rfl rfl rfl (iI_toInt (by omega) (by omega)) (fun c_132 => False.elim (c_132 hv0)) (fun _ => ?_)
      refine a_iload_7 rfl rfl ?_
      refine a_iload_9 rfl rfl ?_
      refine a_iconst (v := (nI 1)) rfl rfl rfl ?_
      refine a_isubN rfl rfl (by omega) ?_
      refine a_maxN rfl rfl (Nat.le_of_ble_eq_true rfl) (by omega) (by omega) ?_
      refine a_as (y := nI (nu - 1)) (congrArg nI (by omega)) ?_
      refine a_goto rfl rfl ?_
      refine a_istore_7 rfl rfl rfl ?_
      refine a_iconst (v := (nI 0)) rfl rfl rfl ?_
      refine a_iload_5 rfl rfl ?_
      refine a_iconst (v := (nI 1)) rfl rfl rfl ?_
      refine a_isubN rfl rfl (by omega) ?_
      refine a_maxN rfl rfl (Nat.le_of_ble_eq_true rfl) (by omega) (by omega) ?_
      refine a_as (y := nI (q.length)) (congrArg nI (by omega)) ?_
      refine a_istore_5 rfl rfl rfl ?_
      refine a_aload_0 rfl rfl ?_
      refine a_getr rfl rfl rfl (fun _ _ _ => rfl) rfl ?_
      refine a_iload_5 rfl rfl ?_
      refine a_iald rfl rfl (Or.inl rfl) rfl (by omega) (by decide) ?_
      refine a_as (y := iI (y)) hF.1 ?_
      refine a_istore_4 rfl rfl rfl ?_
      refine a_goto rfl rfl ?_
      refine a_iinc_7 rfl rfl (by rw [nI_inc]; congr 1; omega : nI (nu - 1) + Int32.ofInt ((1 : Nat) : Int) = nI nu) rfl ?_
      refine a_goto rfl rfl ?_
      exact Z _ _
    · rw [if_neg hv0] at Z
      refine a_iload_7 rfl rfl ?_
      refine a_iload_6 rfl rfl ?_
      refine a_cmpN_ge rfl rfl rfl (by omega) (by omega) (fun c_37 => False.elim (by omega)) (fun _ => ?_)
      refine a_aload_1 rfl rfl ?_
      refine a_getr rfl rfl (congrArg Prod.fst (tx_t hx)) (fun _ _ _ => rfl) (tx_r4 hx) ?_
      refine a_iload_7 rfl rfl ?_
      refine a_iald rfl rfl (Or.inl (tx_4 hx)) rfl (by omega) (by decide) ?_
      refine a_as (y := nI (nu * 64 + 24)) cd ?_
      refine a_bipush (v := (nI 63)) rfl rfl rfl ?_
      refine a_iand rfl rfl ?_
      refine a_as (y := nI (24)) sgE ?_
      refine a_istore_8 rfl rfl rfl ?_
      refine a_aload_1 rfl rfl ?_
      refine a_getr rfl rfl (congrArg Prod.fst (tx_t hx)) (fun _ _ _ => rfl) (tx_r4 hx) ?_
      refine a_iload_7 rfl rfl ?_
      refine a_iald rfl rfl (Or.inl (tx_4 hx)) rfl (by omega) (by decide) ?_
      refine a_as (y := nI (nu * 64 + 24)) cd ?_
      refine a_bipush (v := (nI 6)) rfl rfl rfl ?_
      refine a_ishr rfl rfl ?_
      refine a_as (y := nI (nu)) nuE ?_
      refine a_istore_9 rfl rfl rfl ?_
      refine a_iload_8 rfl rfl ?_
      refine a_look (n := 130) rfl rfl ?_
      refine a_iload_4 rfl rfl ?_
      refine a_ifI_ne rfl rfl rfl (iI_toInt (by omega) (by omega)) (fun _ => ?_) (fun c_132 => False.elim (hv0 c_132))
      refine a_iload_7 rfl rfl ?_
      refine a_istore_7 rfl rfl rfl ?_
      refine a_iconst (v := (nI 0)) rfl rfl rfl ?_
      refine a_iload_5 rfl rfl ?_
      refine a_iconst (v := (nI 1)) rfl rfl rfl ?_
      refine a_isubN rfl rfl (by omega) ?_
      refine a_maxN rfl rfl (Nat.le_of_ble_eq_true rfl) (by omega) (by omega) ?_
      refine a_as (y := nI (q.length)) (congrArg nI (by omega)) ?_
      refine a_istore_5 rfl rfl rfl ?_
      refine a_aload_0 rfl rfl ?_
      refine a_getr rfl rfl rfl (fun _ _ _ => rfl) rfl ?_
      refine a_iload_5 rfl rfl ?_
      refine a_iald rfl rfl (Or.inl rfl) rfl (by omega) (by decide) ?_
      refine a_as (y := iI (y)) hF.1 ?_
      refine a_istore_4 rfl rfl rfl ?_
      refine a_goto rfl rfl ?_
      refine a_iinc_7 rfl rfl (nI_inc _ _) rfl ?_
      refine a_goto rfl rfl ?_
      exact Z _ _
  · refine ⟨F, hF, (by show -1000000 ≤ -v ∧ -v ≤ 1000000; omega), fun r y8 y9 Z => ?_⟩
    refine a_iload_7 rfl rfl ?_
    refine a_iload_6 rfl rfl ?_
    refine a_cmpN_ge rfl rfl rfl (by omega) (by omega) (fun c_37 => False.elim (by omega)) (fun _ => ?_)
    refine a_aload_1 rfl rfl ?_
    refine a_getr rfl rfl (congrArg Prod.fst (tx_t hx)) (fun _ _ _ => rfl) (tx_r4 hx) ?_
    refine a_iload_7 rfl rfl ?_
    refine a_iald rfl rfl (Or.inl (tx_4 hx)) rfl (by omega) (by decide) ?_
    refine a_as (y := nI (nu * 64 + 48)) cd ?_
    refine a_bipush (v := (nI 63)) rfl rfl rfl ?_
    refine a_iand rfl rfl ?_
    refine a_as (y := nI (48)) sgE ?_
    refine a_istore_8 rfl rfl rfl ?_
    refine a_aload_1 rfl rfl ?_
    refine a_getr rfl rfl (congrArg Prod.fst (tx_t hx)) (fun _ _ _ => rfl) (tx_r4 hx) ?_
    refine a_iload_7 rfl rfl ?_
    refine a_iald rfl rfl (Or.inl (tx_4 hx)) rfl (by omega) (by decide) ?_
    refine a_as (y := nI (nu * 64 + 48)) cd ?_
    refine a_bipush (v := (nI 6)) rfl rfl rfl ?_
    refine a_ishr rfl rfl ?_
    refine a_as (y := nI (nu)) nuE ?_
    refine a_istore_9 rfl rfl rfl ?_
    refine a_iload_8 rfl rfl ?_
    refine a_look (n := 173) rfl rfl ?_
    refine a_iload_4 rfl rfl ?_
    refine a_inegZ rfl rfl ?_
    refine a_istore_4 rfl rfl rfl ?_
    refine a_goto rfl rfl ?_
    refine a_iinc_7 rfl rfl (nI_inc _ _) rfl ?_
    refine a_goto rfl rfl ?_
    exact Z _ _
  · refine ⟨F, hF, (by show -1000000 ≤ 1 - v ∧ 1 - v ≤ 1000000; omega), fun r y8 y9 Z => ?_⟩
    refine a_iload_7 rfl rfl ?_
    refine a_iload_6 rfl rfl ?_
    refine a_cmpN_ge rfl rfl rfl (by omega) (by omega) (fun c_37 => False.elim (by omega)) (fun _ => ?_)
    refine a_aload_1 rfl rfl ?_
    refine a_getr rfl rfl (congrArg Prod.fst (tx_t hx)) (fun _ _ _ => rfl) (tx_r4 hx) ?_
    refine a_iload_7 rfl rfl ?_
    refine a_iald rfl rfl (Or.inl (tx_4 hx)) rfl (by omega) (by decide) ?_
    refine a_as (y := nI (nu * 64 + 30)) cd ?_
    refine a_bipush (v := (nI 63)) rfl rfl rfl ?_
    refine a_iand rfl rfl ?_
    refine a_as (y := nI (30)) sgE ?_
    refine a_istore_8 rfl rfl rfl ?_
    refine a_aload_1 rfl rfl ?_
    refine a_getr rfl rfl (congrArg Prod.fst (tx_t hx)) (fun _ _ _ => rfl) (tx_r4 hx) ?_
    refine a_iload_7 rfl rfl ?_
    refine a_iald rfl rfl (Or.inl (tx_4 hx)) rfl (by omega) (by decide) ?_
    refine a_as (y := nI (nu * 64 + 30)) cd ?_
    refine a_bipush (v := (nI 6)) rfl rfl rfl ?_
    refine a_ishr rfl rfl ?_
    refine a_as (y := nI (nu)) nuE ?_
    refine a_istore_9 rfl rfl rfl ?_
    refine a_iload_8 rfl rfl ?_
    refine a_look (n := 181) rfl rfl ?_
    refine a_iconst (v := iI (1)) rfl rfl rfl ?_
    refine a_iload_4 rfl rfl ?_
    refine a_isubZ rfl rfl ?_
    refine a_istore_4 rfl rfl rfl ?_
    refine a_goto rfl rfl ?_
    refine a_iinc_7 rfl rfl (nI_inc _ _) rfl ?_
    refine a_goto rfl rfl ?_
    exact Z _ _
  · refine ⟨va_up F stk.length (iI v), ⟨va_up_self _ _ _, hv, sR_up (Nat.le_refl _) hF⟩, hE.1 sg, fun r y8 y9 Z => ?_⟩
    have t0 : (nI sg).toInt = sg := nI_toInt (by omega)
    have a1 : ¬ (23 : Int) = (nI sg).toInt := by omega
    have a2 : ¬ (24 : Int) = (nI sg).toInt := by omega
    have a3 : ¬ (26 : Int) = (nI sg).toInt := by omega
    have a4 : ¬ (30 : Int) = (nI sg).toInt := by omega
    have a5 : ¬ (48 : Int) = (nI sg).toInt := by omega
    have hn := hN sg c2
    refine a_iload_7 rfl rfl ?_
    refine a_iload_6 rfl rfl ?_
    refine a_cmpN_ge rfl rfl rfl (by omega) (by omega) (fun c_37 => False.elim (by omega)) (fun _ => ?_)
    refine a_aload_1 rfl rfl ?_
    refine a_getr rfl rfl (congrArg Prod.fst (tx_t hx)) (fun _ _ _ => rfl) (tx_r4 hx) ?_
    refine a_iload_7 rfl rfl ?_
    refine a_iald rfl rfl (Or.inl (tx_4 hx)) rfl (by omega) (by decide) ?_
    refine a_as (y := nI (nu * 64 + sg)) cd ?_
    refine a_bipush (v := (nI 63)) rfl rfl rfl ?_
    refine a_iand rfl rfl ?_
    refine a_as (y := nI (sg)) sgE ?_
    refine a_istore_8 rfl rfl rfl ?_
    refine a_aload_1 rfl rfl ?_
    refine a_getr rfl rfl (congrArg Prod.fst (tx_t hx)) (fun _ _ _ => rfl) (tx_r4 hx) ?_
    refine a_iload_7 rfl rfl ?_
    refine a_iald rfl rfl (Or.inl (tx_4 hx)) rfl (by omega) (by decide) ?_
    refine a_as (y := nI (nu * 64 + sg)) cd ?_
    refine a_bipush (v := (nI 6)) rfl rfl rfl ?_
    refine a_ishr rfl rfl ?_
    refine a_as (y := nI (nu)) nuE ?_
    refine a_istore_9 rfl rfl rfl ?_
    refine a_iload_8 rfl rfl ?_
    refine a_look (n := 209) rfl (by simp [Op.lookupswitch.offset, a1, a2, a3, a4, a5]) ?_
    refine a_iload_8 rfl rfl ?_
    refine a_bipush (v := (nI 11)) rfl rfl rfl ?_
    refine a_cmpN_lt rfl rfl rfl (by omega) (by omega) (fun _ => ?_) (fun c_213 => False.elim (by omega))
    refine a_aload_0 rfl rfl ?_
    refine a_getr rfl rfl rfl (fun _ _ _ => rfl) rfl ?_
    refine a_iload_5 rfl rfl ?_
    refine a_iload_4 rfl rfl ?_
    refine a_iast rfl rfl rfl rfl (by omega) (by decide) ?_
    rw [up_put]
    refine a_bipush (v := (nI 63)) rfl rfl rfl ?_
    refine a_iload_5 rfl rfl ?_
    refine a_iconst (v := (nI 1)) rfl rfl rfl ?_
    refine a_iaddN rfl rfl ?_
    refine a_minN rfl rfl (Nat.le_of_ble_eq_true rfl) (by omega) (by omega) ?_
    refine a_as (y := nI (stk.length + 1)) (congrArg nI (by omega)) ?_
    refine a_istore_5 rfl rfl rfl ?_
    refine a_iload_8 rfl rfl ?_
    refine a_bipush (v := (nI 45)) rfl rfl rfl ?_
    refine a_cmpN_ne rfl rfl rfl (by omega) (by omega) (fun _ => ?_) (fun c_247 => False.elim (by omega))
    refine a_aload_0 rfl rfl ?_
    refine a_getr rfl rfl rfl (fun _ _ _ => rfl) rfl ?_
    refine a_iload_8 rfl rfl ?_
    refine a_iald rfl rfl (Or.inl rfl) rfl (by omega) (by decide) ?_
    refine a_as (y := iI (E.1 sg)) hn ?_
    refine a_istore_4 rfl rfl rfl ?_
    refine a_goto rfl rfl ?_
    refine a_iinc_7 rfl rfl (nI_inc _ _) rfl ?_
    refine a_goto rfl rfl ?_
    exact Z _ _
  · refine ⟨va_up F stk.length (iI v), ⟨va_up_self _ _ _, hv, sR_up (Nat.le_refl _) hF⟩, (by show (-1000000 : Int) ≤ nu ∧ (nu : Int) ≤ 1000000; omega), fun r y8 y9 Z => ?_⟩
    refine a_iload_7 rfl rfl ?_
    refine a_iload_6 rfl rfl ?_
    refine a_cmpN_ge rfl rfl rfl (by omega) (by omega) (fun c_37 => False.elim (by omega)) (fun _ => ?_)
    refine a_aload_1 rfl rfl ?_
    refine a_getr rfl rfl (congrArg Prod.fst (tx_t hx)) (fun _ _ _ => rfl) (tx_r4 hx) ?_
    refine a_iload_7 rfl rfl ?_
    refine a_iald rfl rfl (Or.inl (tx_4 hx)) rfl (by omega) (by decide) ?_
    refine a_as (y := nI (nu * 64 + 45)) cd ?_
    refine a_bipush (v := (nI 63)) rfl rfl rfl ?_
    refine a_iand rfl rfl ?_
    refine a_as (y := nI (45)) sgE ?_
    refine a_istore_8 rfl rfl rfl ?_
    refine a_aload_1 rfl rfl ?_
    refine a_getr rfl rfl (congrArg Prod.fst (tx_t hx)) (fun _ _ _ => rfl) (tx_r4 hx) ?_
    refine a_iload_7 rfl rfl ?_
    refine a_iald rfl rfl (Or.inl (tx_4 hx)) rfl (by omega) (by decide) ?_
    refine a_as (y := nI (nu * 64 + 45)) cd ?_
    refine a_bipush (v := (nI 6)) rfl rfl rfl ?_
    refine a_ishr rfl rfl ?_
    refine a_as (y := nI (nu)) nuE ?_
    refine a_istore_9 rfl rfl rfl ?_
    refine a_iload_8 rfl rfl ?_
    refine a_look (n := 209) rfl rfl ?_
    refine a_iload_8 rfl rfl ?_
    refine a_bipush (v := (nI 11)) rfl rfl rfl ?_
    refine a_cmpN_lt rfl rfl rfl (by omega) (by omega) (fun c_213 => False.elim (by omega)) (fun _ => ?_)
    refine a_iload_8 rfl rfl ?_
    refine a_bipush (v := (nI 45)) rfl rfl rfl ?_
    refine a_cmpN_ne rfl rfl rfl (by omega) (by omega) (fun c_220 => False.elim (by omega)) (fun _ => ?_)
    refine a_aload_0 rfl rfl ?_
    refine a_getr rfl rfl rfl (fun _ _ _ => rfl) rfl ?_
    refine a_iload_5 rfl rfl ?_
    refine a_iload_4 rfl rfl ?_
    refine a_iast rfl rfl rfl rfl (by omega) (by decide) ?_
    rw [up_put]
    refine a_bipush (v := (nI 63)) rfl rfl rfl ?_
    refine a_iload_5 rfl rfl ?_
    refine a_iconst (v := (nI 1)) rfl rfl rfl ?_
    refine a_iaddN rfl rfl ?_
    refine a_minN rfl rfl (Nat.le_of_ble_eq_true rfl) (by omega) (by omega) ?_
    refine a_as (y := nI (stk.length + 1)) (congrArg nI (by omega)) ?_
    refine a_istore_5 rfl rfl rfl ?_
    refine a_iload_8 rfl rfl ?_
    refine a_bipush (v := (nI 45)) rfl rfl rfl ?_
    refine a_cmpN_ne rfl rfl rfl (by omega) (by omega) (fun c_247 => False.elim (by omega)) (fun _ => ?_)
    refine a_iload_9 rfl rfl ?_
    refine a_as (y := iI ((nu : Int))) (iI_nat nu).symm ?_
    refine a_goto rfl rfl ?_
    refine a_istore_4 rfl rfl rfl ?_
    refine a_goto rfl rfl ?_
    refine a_iinc_7 rfl rfl (nI_inc _ _) rfl ?_
    refine a_goto rfl rfl ?_
    exact Z _ _
  · refine ⟨F, hF.2.2, jnZ_B c2 hF.2.1 hv, fun r y8 y9 Z => ?_⟩
    have hl : (y :: q).length = q.length + 1 := rfl
    rw [hl] at g4 ⊢
    have c3 := c2
    unfold jnOk at c3
    have t0 : (nI sg).toInt = sg := nI_toInt (by omega)
    have a1 : ¬ (23 : Int) = (nI sg).toInt := by omega
    have a2 : ¬ (24 : Int) = (nI sg).toInt := by omega
    have a3 : ¬ (26 : Int) = (nI sg).toInt := by omega
    have a4 : ¬ (30 : Int) = (nI sg).toInt := by omega
    have a5 : ¬ (48 : Int) = (nI sg).toInt := by omega
    refine a_iload_7 rfl rfl ?_
    refine a_iload_6 rfl rfl ?_
    refine a_cmpN_ge rfl rfl rfl (by omega) (by omega) (fun c_37 => False.elim (by omega)) (fun _ => ?_)
    refine a_aload_1 rfl rfl ?_
    refine a_getr rfl rfl (congrArg Prod.fst (tx_t hx)) (fun _ _ _ => rfl) (tx_r4 hx) ?_
    refine a_iload_7 rfl rfl ?_
    refine a_iald rfl rfl (Or.inl (tx_4 hx)) rfl (by omega) (by decide) ?_
    refine a_as (y := nI (nu * 64 + sg)) cd ?_
    refine a_bipush (v := (nI 63)) rfl rfl rfl ?_
    refine a_iand rfl rfl ?_
    refine a_as (y := nI (sg)) sgE ?_
    refine a_istore_8 rfl rfl rfl ?_
    refine a_aload_1 rfl rfl ?_
    refine a_getr rfl rfl (congrArg Prod.fst (tx_t hx)) (fun _ _ _ => rfl) (tx_r4 hx) ?_
    refine a_iload_7 rfl rfl ?_
    refine a_iald rfl rfl (Or.inl (tx_4 hx)) rfl (by omega) (by decide) ?_
    refine a_as (y := nI (nu * 64 + sg)) cd ?_
    refine a_bipush (v := (nI 6)) rfl rfl rfl ?_
    refine a_ishr rfl rfl ?_
    refine a_as (y := nI (nu)) nuE ?_
    refine a_istore_9 rfl rfl rfl ?_
    refine a_iload_8 rfl rfl ?_
    refine a_look (n := 209) rfl (by simp [Op.lookupswitch.offset, a1, a2, a3, a4, a5]) ?_
    refine a_iload_8 rfl rfl ?_
    refine a_bipush (v := (nI 11)) rfl rfl rfl ?_
    refine a_cmpN_lt rfl rfl rfl (by omega) (by omega) (fun c_213 => False.elim (by omega)) (fun _ => ?_)
    refine a_iload_8 rfl rfl ?_
    refine a_bipush (v := (nI 45)) rfl rfl rfl ?_
    refine a_cmpN_ne rfl rfl rfl (by omega) (by omega) (fun _ => ?_) (fun c_220 => False.elim (by omega))
    refine a_iconst (v := (nI 0)) rfl rfl rfl ?_
    refine a_iload_5 rfl rfl ?_
    refine a_iconst (v := (nI 1)) rfl rfl rfl ?_
    refine a_isubN rfl rfl (by omega) ?_
    refine a_maxN rfl rfl (Nat.le_of_ble_eq_true rfl) (by omega) (by omega) ?_
    refine a_as (y := nI (q.length)) (congrArg nI (by omega)) ?_
    refine a_istore_5 rfl rfl rfl ?_
    refine a_iload_8 rfl rfl ?_
    refine a_aload_0 rfl rfl ?_
    refine a_getr rfl rfl rfl (fun _ _ _ => rfl) rfl ?_
    refine a_iload_5 rfl rfl ?_
    refine a_iald rfl rfl (Or.inl rfl) rfl (by omega) (by decide) ?_
    refine a_as (y := iI (y)) hF.1 ?_
    refine a_iload_4 rfl rfl ?_
    refine a_statI rfl rfl (e_join sg y v c2 hF.2.1 hv) (Nat.le_of_ble_eq_true rfl) ⟨rfl, rfl, rfl⟩ rfl rfl rfl (Nat.le_of_ble_eq_true rfl) rfl ?_
    refine a_istore_4 rfl rfl rfl ?_
    refine a_iinc_7 rfl rfl (nI_inc _ _) rfl ?_
    refine a_goto rfl rfl ?_
    exact Z _ _
theorem k1_36 (x : Nat) (hx : x < t) (law e : Nat) (E : E1) (hE : eOK E) (hN : ∀ j, nmOk law j = true → h 38 j = iI (E.1 j)) (i : Nat) (v : Int) (stk : List Int) (b : V1) (F : Nat → Int32) (hi : i < e) (he : e ≤ 300) (hS : S1n law (h (98 + 7 * x + 4)) E i v stk b) (hv : -1000000 ≤ v ∧ v ≤ 1000000) (hF : sR stk F) : ∃ F', sR b.2.2 F' ∧ (-1000000 ≤ b.2.1 ∧ b.2.1 ≤ 1000000) ∧ ∀ (r : Option Value × mvSt) y8 y9, (∀ y8 y9, avA 3 105 33 [.ref 36, .ref (98 + 7 * x), .int (nI law), .ref 8, .int (iI b.2.1), .int (nI b.2.2.length), .int (nI e), .int (nI b.1), y8, y9] [] (sX L t lt rt rp sw (va_up h 37 F') gl) r) → avA 3 105 33 [.ref 36, .ref (98 + 7 * x), .int (nI law), .ref 8, .int (iI v), .int (nI stk.length), .int (nI e), .int (nI i), y8, y9] [] (sX L t lt rt rp sw (va_up h 37 F) gl) r := by
  obtain ⟨sg, nu, g1, g2, g3, g4, C⟩ := hS
  have cd : (va_up h 37 F) (98 + 7 * x + 4) i = nI (nu * 64 + sg) := by rw [va_up_ne _ _ (by omega)]; exact g3
  have sgE : nI (nu * 64 + sg) &&& nI 63 = nI sg := by rw [pk_andN (by omega) 6 (by decide)]; congr 1; omega
  have nuE : nI (nu * 64 + sg) >>> (nI 6 &&& 31) = nI nu := by rw [pk_shrN (by omega) _ 6 (by decide)]; congr 1; omega
  rcases C with ⟨rfl, c2, rfl⟩ | ⟨rfl, c2, y, q, rfl, rfl⟩ | ⟨rfl, rfl⟩ | ⟨rfl, c2, rfl⟩ | ⟨c1, c2, rfl⟩ | ⟨rfl, rfl⟩ | ⟨y, q, rfl, c2, rfl⟩
  · refine ⟨F, hF, hv, fun r y8 y9 Z => ?_⟩
    refine a_iload_7 rfl rfl ?_
    refine a_iload_6 rfl rfl ?_
    refine a_cmpN_ge rfl rfl rfl (by omega) (by omega) (fun c_37 => False.elim (by omega)) (fun _ => ?_)
    refine a_aload_1 rfl rfl ?_
    refine a_getr rfl rfl (congrArg Prod.fst (tx_t hx)) (fun _ _ _ => rfl) (tx_r4 hx) ?_
    refine a_iload_7 rfl rfl ?_
    refine a_iald rfl rfl (Or.inl (tx_4 hx)) rfl (by omega) (by decide) ?_
    refine a_as (y := nI (nu * 64 + 26)) cd ?_
    refine a_bipush (v := (nI 63)) rfl rfl rfl ?_
    refine a_iand rfl rfl ?_
    refine a_as (y := nI (26)) sgE ?_
    refine a_istore_8 rfl rfl rfl ?_
    refine a_aload_1 rfl rfl ?_
    refine a_getr rfl rfl (congrArg Prod.fst (tx_t hx)) (fun _ _ _ => rfl) (tx_r4 hx) ?_
    refine a_iload_7 rfl rfl ?_
    refine a_iald rfl rfl (Or.inl (tx_4 hx)) rfl (by omega) (by decide) ?_
    refine a_as (y := nI (nu * 64 + 26)) cd ?_
    refine a_bipush (v := (nI 6)) rfl rfl rfl ?_
    refine a_ishr rfl rfl ?_
    refine a_as (y := nI (nu)) nuE ?_
    refine a_istore_9 rfl rfl rfl ?_
    refine a_iload_8 rfl rfl ?_
    refine a_look (n := 116) rfl rfl ?_
    refine a_iload_7 rfl rfl ?_
    refine a_iload_9 rfl rfl ?_
    refine a_iconst (v := (nI 1)) rfl rfl rfl ?_
    refine a_isubN rfl rfl (by omega) ?_
    refine a_maxN rfl rfl (Nat.le_of_ble_eq_true rfl) (by omega) (by omega) ?_
    refine a_as (y := nI (nu - 1)) (congrArg nI (by omega)) ?_
    refine a_istore_7 rfl rfl rfl ?_
    refine a_goto rfl rfl ?_
    refine a_iinc_7 rfl rfl (by rw [nI_inc]; congr 1; omega : nI (nu - 1) + Int32.ofInt ((1 : Nat) : Int) = nI nu) rfl ?_
    refine a_goto rfl rfl ?_
    exact Z _ _
  · refine ⟨F, hF.2.2, hF.2.1, fun r y8 y9 Z => ?_⟩
    have hl : (y :: q).length = q.length + 1 := rfl
    rw [hl] at g4 ⊢
    by_cases hv0 : v = 0
    · rw [if_pos hv0] at Z
      refine a_iload_7 rfl rfl ?_
      refine a_iload_6 rfl rfl ?_
      refine a_cmpN_ge rfl rfl rfl (by omega) (by omega) (fun c_37 => False.elim (by omega)) (fun _ => ?_)
      refine a_aload_1 rfl rfl ?_
      refine a_getr rfl rfl (congrArg Prod.fst (tx_t hx)) (fun _ _ _ => rfl) (tx_r4 hx) ?_
      refine a_iload_7 rfl rfl ?_
      refine a_iald rfl rfl (Or.inl (tx_4 hx)) rfl (by omega) (by decide) ?_
      refine a_as (y := nI (nu * 64 + 24)) cd ?_
      refine a_bipush (v := (nI 63)) rfl rfl rfl ?_
      refine a_iand rfl rfl ?_
      refine a_as (y := nI (24)) sgE ?_
      refine a_istore_8 rfl rfl rfl ?_
      refine a_aload_1 rfl rfl ?_
      refine a_getr rfl rfl (congrArg Prod.fst (tx_t hx)) (fun _ _ _ => rfl) (tx_r4 hx) ?_
      refine a_iload_7 rfl rfl ?_
      refine a_iald rfl rfl (Or.inl (tx_4 hx)) rfl (by omega) (by decide) ?_
      refine a_as (y := nI (nu * 64 + 24)) cd ?_
      refine a_bipush (v := (nI 6)) rfl rfl rfl ?_
      refine a_ishr rfl rfl ?_
      refine a_as (y := nI (nu)) nuE ?_
      refine a_istore_9 rfl rfl rfl ?_
      refine a_iload_8 rfl rfl ?_
      refine a_look (n := 130) rfl rfl ?_
      refine a_iload_4 rfl rfl ?_
      refine a_ifI_ne rfl rfl rfl (iI_toInt (by omega) (by omega)) (fun c_132 => False.elim (c_132 hv0)) (fun _ => ?_)
      refine a_iload_7 rfl rfl ?_
      refine a_iload_9 rfl rfl ?_
      refine a_iconst (v := (nI 1)) rfl rfl rfl ?_
      refine a_isubN rfl rfl (by omega) ?_
      refine a_maxN rfl rfl (Nat.le_of_ble_eq_true rfl) (by omega) (by omega) ?_
      refine a_as (y := nI (nu - 1)) (congrArg nI (by omega)) ?_
      refine a_goto rfl rfl ?_
      refine a_istore_7 rfl rfl rfl ?_
      refine a_iconst (v := (nI 0)) rfl rfl rfl ?_
      refine a_iload_5 rfl rfl ?_
      refine a_iconst (v := (nI 1)) rfl rfl rfl ?_
      refine a_isubN rfl rfl (by omega) ?_
      refine a_maxN rfl rfl (Nat.le_of_ble_eq_true rfl) (by omega) (by omega) ?_
      refine a_as (y := nI (q.length)) (congrArg nI (by omega)) ?_
      refine a_istore_5 rfl rfl rfl ?_
      refine a_aload_0 rfl rfl ?_
      refine a_getr rfl rfl rfl (fun _ _ _ => rfl) rfl ?_
      refine a_iload_5 rfl rfl ?_
      refine a_iald rfl rfl (Or.inl rfl) rfl (by omega) (by decide) ?_
      refine a_as (y := iI (y)) hF.1 ?_
      refine a_istore_4 rfl rfl rfl ?_
      refine a_goto rfl rfl ?_
      refine a_iinc_7 rfl rfl (by rw [nI_inc]; congr 1; omega : nI (nu - 1) + Int32.ofInt ((1 : Nat) : Int) = nI nu) rfl ?_
      refine a_goto rfl rfl ?_
      exact Z _ _
    · rw [if_neg hv0] at Z
      refine a_iload_7 rfl rfl ?_
      refine a_iload_6 rfl rfl ?_
      refine a_cmpN_ge rfl rfl rfl (by omega) (by omega) (fun c_37 => False.elim (by omega)) (fun _ => ?_)
      refine a_aload_1 rfl rfl ?_
      refine a_getr rfl rfl (congrArg Prod.fst (tx_t hx)) (fun _ _ _ => rfl) (tx_r4 hx) ?_
      refine a_iload_7 rfl rfl ?_
      refine a_iald rfl rfl (Or.inl (tx_4 hx)) rfl (by omega) (by decide) ?_
      refine a_as (y := nI (nu * 64 + 24)) cd ?_
      refine a_bipush (v := (nI 63)) rfl rfl rfl ?_
      refine a_iand rfl rfl ?_
      refine a_as (y := nI (24)) sgE ?_
      refine a_istore_8 rfl rfl rfl ?_
      refine a_aload_1 rfl rfl ?_
      refine a_getr rfl rfl (congrArg Prod.fst (tx_t hx)) (fun _ _ _ => rfl) (tx_r4 hx) ?_
      refine a_iload_7 rfl rfl ?_
      refine a_iald rfl rfl (Or.inl (tx_4 hx)) rfl (by omega) (by decide) ?_
      refine a_as (y := nI (nu * 64 + 24)) cd ?_
      refine a_bipush (v := (nI 6)) rfl rfl rfl ?_
      refine a_ishr rfl rfl ?_
      refine a_as (y := nI (nu)) nuE ?_
      refine a_istore_9 rfl rfl rfl ?_
      refine a_iload_8 rfl rfl ?_
      refine a_look (n := 130) rfl rfl ?_
      refine a_iload_4 rfl rfl ?_
      refine a_ifI_ne rfl rfl rfl (iI_toInt (by omega) (by omega)) (fun _ => ?_) (fun c_132 => False.elim (hv0 c_132))
      refine a_iload_7 rfl rfl ?_
      refine a_istore_7 rfl rfl rfl ?_
      refine a_iconst (v := (nI 0)) rfl rfl rfl ?_
      refine a_iload_5 rfl rfl ?_
      refine a_iconst (v := (nI 1)) rfl rfl rfl ?_
      refine a_isubN rfl rfl (by omega) ?_
      refine a_maxN rfl rfl (Nat.le_of_ble_eq_true rfl) (by omega) (by omega) ?_
      refine a_as (y := nI (q.length)) (congrArg nI (by omega)) ?_
      refine a_istore_5 rfl rfl rfl ?_
      refine a_aload_0 rfl rfl ?_
      refine a_getr rfl rfl rfl (fun _ _ _ => rfl) rfl ?_
      refine a_iload_5 rfl rfl ?_
      refine a_iald rfl rfl (Or.inl rfl) rfl (by omega) (by decide) ?_
      refine a_as (y := iI (y)) hF.1 ?_
      refine a_istore_4 rfl rfl rfl ?_
      refine a_goto rfl rfl ?_
      refine a_iinc_7 rfl rfl (nI_inc _ _) rfl ?_
      refine a_goto rfl rfl ?_
      exact Z _ _
  · refine ⟨F, hF, (by show -1000000 ≤ -v ∧ -v ≤ 1000000; omega), fun r y8 y9 Z => ?_⟩
    refine a_iload_7 rfl rfl ?_
    refine a_iload_6 rfl rfl ?_
    refine a_cmpN_ge rfl rfl rfl (by omega) (by omega) (fun c_37 => False.elim (by omega)) (fun _ => ?_)
    refine a_aload_1 rfl rfl ?_
    refine a_getr rfl rfl (congrArg Prod.fst (tx_t hx)) (fun _ _ _ => rfl) (tx_r4 hx) ?_
    refine a_iload_7 rfl rfl ?_
    refine a_iald rfl rfl (Or.inl (tx_4 hx)) rfl (by omega) (by decide) ?_
    refine a_as (y := nI (nu * 64 + 48)) cd ?_
    refine a_bipush (v := (nI 63)) rfl rfl rfl ?_
    refine a_iand rfl rfl ?_
    refine a_as (y := nI (48)) sgE ?_
    refine a_istore_8 rfl rfl rfl ?_
    refine a_aload_1 rfl rfl ?_
    refine a_getr rfl rfl (congrArg Prod.fst (tx_t hx)) (fun _ _ _ => rfl) (tx_r4 hx) ?_
    refine a_iload_7 rfl rfl ?_
    refine a_iald rfl rfl (Or.inl (tx_4 hx)) rfl (by omega) (by decide) ?_
    refine a_as (y := nI (nu * 64 + 48)) cd ?_
    refine a_bipush (v := (nI 6)) rfl rfl rfl ?_
    refine a_ishr rfl rfl ?_
    refine a_as (y := nI (nu)) nuE ?_
    refine a_istore_9 rfl rfl rfl ?_
    refine a_iload_8 rfl rfl ?_
    refine a_look (n := 173) rfl rfl ?_
    refine a_iload_4 rfl rfl ?_
    refine a_inegZ rfl rfl ?_
    refine a_istore_4 rfl rfl rfl ?_
    refine a_goto rfl rfl ?_
    refine a_iinc_7 rfl rfl (nI_inc _ _) rfl ?_
    refine a_goto rfl rfl ?_
    exact Z _ _
  · refine ⟨F, hF, (by show -1000000 ≤ 1 - v ∧ 1 - v ≤ 1000000; omega), fun r y8 y9 Z => ?_⟩
    refine a_iload_7 rfl rfl ?_
    refine a_iload_6 rfl rfl ?_
    refine a_cmpN_ge rfl rfl rfl (by omega) (by omega) (fun c_37 => False.elim (by omega)) (fun _ => ?_)
    refine a_aload_1 rfl rfl ?_
    refine a_getr rfl rfl (congrArg Prod.fst (tx_t hx)) (fun _ _ _ => rfl) (tx_r4 hx) ?_
    refine a_iload_7 rfl rfl ?_
    refine a_iald rfl rfl (Or.inl (tx_4 hx)) rfl (by omega) (by decide) ?_
    refine a_as (y := nI (nu * 64 + 30)) cd ?_
    refine a_bipush (v := (nI 63)) rfl rfl rfl ?_
    refine a_iand rfl rfl ?_
    refine a_as (y := nI (30)) sgE ?_
    refine a_istore_8 rfl rfl rfl ?_
    refine a_aload_1 rfl rfl ?_
    refine a_getr rfl rfl (congrArg Prod.fst (tx_t hx)) (fun _ _ _ => rfl) (tx_r4 hx) ?_
    refine a_iload_7 rfl rfl ?_
    refine a_iald rfl rfl (Or.inl (tx_4 hx)) rfl (by omega) (by decide) ?_
    refine a_as (y := nI (nu * 64 + 30)) cd ?_
    refine a_bipush (v := (nI 6)) rfl rfl rfl ?_
    refine a_ishr rfl rfl ?_
    refine a_as (y := nI (nu)) nuE ?_
    refine a_istore_9 rfl rfl rfl ?_
    refine a_iload_8 rfl rfl ?_
    refine a_look (n := 181) rfl rfl ?_
    refine a_iconst (v := iI (1)) rfl rfl rfl ?_
    refine a_iload_4 rfl rfl ?_
    refine a_isubZ rfl rfl ?_
    refine a_istore_4 rfl rfl rfl ?_
    refine a_goto rfl rfl ?_
    refine a_iinc_7 rfl rfl (nI_inc _ _) rfl ?_
    refine a_goto rfl rfl ?_
    exact Z _ _
  · refine ⟨va_up F stk.length (iI v), ⟨va_up_self _ _ _, hv, sR_up (Nat.le_refl _) hF⟩, hE.1 sg, fun r y8 y9 Z => ?_⟩
    have t0 : (nI sg).toInt = sg := nI_toInt (by omega)
    have a1 : ¬ (23 : Int) = (nI sg).toInt := by omega
    have a2 : ¬ (24 : Int) = (nI sg).toInt := by omega
    have a3 : ¬ (26 : Int) = (nI sg).toInt := by omega
    have a4 : ¬ (30 : Int) = (nI sg).toInt := by omega
    have a5 : ¬ (48 : Int) = (nI sg).toInt := by omega
    have hn := hN sg c2
    refine a_iload_7 rfl rfl ?_
    refine a_iload_6 rfl rfl ?_
    refine a_cmpN_ge rfl rfl rfl (by omega) (by omega) (fun c_37 => False.elim (by omega)) (fun _ => ?_)
    refine a_aload_1 rfl rfl ?_
    refine a_getr rfl rfl (congrArg Prod.fst (tx_t hx)) (fun _ _ _ => rfl) (tx_r4 hx) ?_
    refine a_iload_7 rfl rfl ?_
    refine a_iald rfl rfl (Or.inl (tx_4 hx)) rfl (by omega) (by decide) ?_
    refine a_as (y := nI (nu * 64 + sg)) cd ?_
    refine a_bipush (v := (nI 63)) rfl rfl rfl ?_
    refine a_iand rfl rfl ?_
    refine a_as (y := nI (sg)) sgE ?_
    refine a_istore_8 rfl rfl rfl ?_
    refine a_aload_1 rfl rfl ?_
    refine a_getr rfl rfl (congrArg Prod.fst (tx_t hx)) (fun _ _ _ => rfl) (tx_r4 hx) ?_
    refine a_iload_7 rfl rfl ?_
    refine a_iald rfl rfl (Or.inl (tx_4 hx)) rfl (by omega) (by decide) ?_
    refine a_as (y := nI (nu * 64 + sg)) cd ?_
    refine a_bipush (v := (nI 6)) rfl rfl rfl ?_
    refine a_ishr rfl rfl ?_
    refine a_as (y := nI (nu)) nuE ?_
    refine a_istore_9 rfl rfl rfl ?_
    refine a_iload_8 rfl rfl ?_
    refine a_look (n := 209) rfl (by simp [Op.lookupswitch.offset, a1, a2, a3, a4, a5]) ?_
    refine a_iload_8 rfl rfl ?_
    refine a_bipush (v := (nI 11)) rfl rfl rfl ?_
    refine a_cmpN_lt rfl rfl rfl (by omega) (by omega) (fun _ => ?_) (fun c_213 => False.elim (by omega))
    refine a_aload_0 rfl rfl ?_
    refine a_getr rfl rfl rfl (fun _ _ _ => rfl) rfl ?_
    refine a_iload_5 rfl rfl ?_
    refine a_iload_4 rfl rfl ?_
    refine a_iast rfl rfl rfl rfl (by omega) (by decide) ?_
    rw [up_put]
    refine a_bipush (v := (nI 63)) rfl rfl rfl ?_
    refine a_iload_5 rfl rfl ?_
    refine a_iconst (v := (nI 1)) rfl rfl rfl ?_
    refine a_iaddN rfl rfl ?_
    refine a_minN rfl rfl (Nat.le_of_ble_eq_true rfl) (by omega) (by omega) ?_
    refine a_as (y := nI (stk.length + 1)) (congrArg nI (by omega)) ?_
    refine a_istore_5 rfl rfl rfl ?_
    refine a_iload_8 rfl rfl ?_
    refine a_bipush (v := (nI 45)) rfl rfl rfl ?_
    refine a_cmpN_ne rfl rfl rfl (by omega) (by omega) (fun _ => ?_) (fun c_247 => False.elim (by omega))
    refine a_aload_0 rfl rfl ?_
    refine a_getr rfl rfl rfl (fun _ _ _ => rfl) rfl ?_
    refine a_iload_8 rfl rfl ?_
    refine a_iald rfl rfl (Or.inl rfl) rfl (by omega) (by decide) ?_
    refine a_as (y := iI (E.1 sg)) hn ?_
    refine a_istore_4 rfl rfl rfl ?_
    refine a_goto rfl rfl ?_
    refine a_iinc_7 rfl rfl (nI_inc _ _) rfl ?_
    refine a_goto rfl rfl ?_
    exact Z _ _
  · refine ⟨va_up F stk.length (iI v), ⟨va_up_self _ _ _, hv, sR_up (Nat.le_refl _) hF⟩, (by show (-1000000 : Int) ≤ nu ∧ (nu : Int) ≤ 1000000; omega), fun r y8 y9 Z => ?_⟩
    refine a_iload_7 rfl rfl ?_
    refine a_iload_6 rfl rfl ?_
    refine a_cmpN_ge rfl rfl rfl (by omega) (by omega) (fun c_37 => False.elim (by omega)) (fun _ => ?_)
    refine a_aload_1 rfl rfl ?_
    refine a_getr rfl rfl (congrArg Prod.fst (tx_t hx)) (fun _ _ _ => rfl) (tx_r4 hx) ?_
    refine a_iload_7 rfl rfl ?_
    refine a_iald rfl rfl (Or.inl (tx_4 hx)) rfl (by omega) (by decide) ?_
    refine a_as (y := nI (nu * 64 + 45)) cd ?_
    refine a_bipush (v := (nI 63)) rfl rfl rfl ?_
    refine a_iand rfl rfl ?_
    refine a_as (y := nI (45)) sgE ?_
    refine a_istore_8 rfl rfl rfl ?_
    refine a_aload_1 rfl rfl ?_
    refine a_getr rfl rfl (congrArg Prod.fst (tx_t hx)) (fun _ _ _ => rfl) (tx_r4 hx) ?_
    refine a_iload_7 rfl rfl ?_
    refine a_iald rfl rfl (Or.inl (tx_4 hx)) rfl (by omega) (by decide) ?_
    refine a_as (y := nI (nu * 64 + 45)) cd ?_
    refine a_bipush (v := (nI 6)) rfl rfl rfl ?_
    refine a_ishr rfl rfl ?_
    refine a_as (y := nI (nu)) nuE ?_
    refine a_istore_9 rfl rfl rfl ?_
    refine a_iload_8 rfl rfl ?_
    refine a_look (n := 209) rfl rfl ?_
    refine a_iload_8 rfl rfl ?_
    refine a_bipush (v := (nI 11)) rfl rfl rfl ?_
    refine a_cmpN_lt rfl rfl rfl (by omega) (by omega) (fun c_213 => False.elim (by omega)) (fun _ => ?_)
    refine a_iload_8 rfl rfl ?_
    refine a_bipush (v := (nI 45)) rfl rfl rfl ?_
    refine a_cmpN_ne rfl rfl rfl (by omega) (by omega) (fun c_220 => False.elim (by omega)) (fun _ => ?_)
    refine a_aload_0 rfl rfl ?_
    refine a_getr rfl rfl rfl (fun _ _ _ => rfl) rfl ?_
    refine a_iload_5 rfl rfl ?_
    refine a_iload_4 rfl rfl ?_
    refine a_iast rfl rfl rfl rfl (by omega) (by decide) ?_
    rw [up_put]
    refine a_bipush (v := (nI 63)) rfl rfl rfl ?_
    refine a_iload_5 rfl rfl ?_
    refine a_iconst (v := (nI 1)) rfl rfl rfl ?_
    refine a_iaddN rfl rfl ?_
    refine a_minN rfl rfl (Nat.le_of_ble_eq_true rfl) (by omega) (by omega) ?_
    refine a_as (y := nI (stk.length + 1)) (congrArg nI (by omega)) ?_
    refine a_istore_5 rfl rfl rfl ?_
    refine a_iload_8 rfl rfl ?_
    refine a_bipush (v := (nI 45)) rfl rfl rfl ?_
    refine a_cmpN_ne rfl rfl rfl (by omega) (by omega) (fun c_247 => False.elim (by omega)) (fun _ => ?_)
    refine a_iload_9 rfl rfl ?_
    refine a_as (y := iI ((nu : Int))) (iI_nat nu).symm ?_
    refine a_goto rfl rfl ?_
    refine a_istore_4 rfl rfl rfl ?_
    refine a_goto rfl rfl ?_
    refine a_iinc_7 rfl rfl (nI_inc _ _) rfl ?_
    refine a_goto rfl rfl ?_
    exact Z _ _
  · refine ⟨F, hF.2.2, jnZ_B c2 hF.2.1 hv, fun r y8 y9 Z => ?_⟩
    have hl : (y :: q).length = q.length + 1 := rfl
    rw [hl] at g4 ⊢
    have c3 := c2
    unfold jnOk at c3
    have t0 : (nI sg).toInt = sg := nI_toInt (by omega)
    have a1 : ¬ (23 : Int) = (nI sg).toInt := by omega
    have a2 : ¬ (24 : Int) = (nI sg).toInt := by omega
    have a3 : ¬ (26 : Int) = (nI sg).toInt := by omega
    have a4 : ¬ (30 : Int) = (nI sg).toInt := by omega
    have a5 : ¬ (48 : Int) = (nI sg).toInt := by omega
    refine a_iload_7 rfl rfl ?_
    refine a_iload_6 rfl rfl ?_
    refine a_cmpN_ge rfl rfl rfl (by omega) (by omega) (fun c_37 => False.elim (by omega)) (fun _ => ?_)
    refine a_aload_1 rfl rfl ?_
    refine a_getr rfl rfl (congrArg Prod.fst (tx_t hx)) (fun _ _ _ => rfl) (tx_r4 hx) ?_
    refine a_iload_7 rfl rfl ?_
    refine a_iald rfl rfl (Or.inl (tx_4 hx)) rfl (by omega) (by decide) ?_
    refine a_as (y := nI (nu * 64 + sg)) cd ?_
    refine a_bipush (v := (nI 63)) rfl rfl rfl ?_
    refine a_iand rfl rfl ?_
    refine a_as (y := nI (sg)) sgE ?_
    refine a_istore_8 rfl rfl rfl ?_
    refine a_aload_1 rfl rfl ?_
    refine a_getr rfl rfl (congrArg Prod.fst (tx_t hx)) (fun _ _ _ => rfl) (tx_r4 hx) ?_
    refine a_iload_7 rfl rfl ?_
    refine a_iald rfl rfl (Or.inl (tx_4 hx)) rfl (by omega) (by decide) ?_
    refine a_as (y := nI (nu * 64 + sg)) cd ?_
    refine a_bipush (v := (nI 6)) rfl rfl rfl ?_
    refine a_ishr rfl rfl ?_
    refine a_as (y := nI (nu)) nuE ?_
    refine a_istore_9 rfl rfl rfl ?_
    refine a_iload_8 rfl rfl ?_
    refine a_look (n := 209) rfl (by simp [Op.lookupswitch.offset, a1, a2, a3, a4, a5]) ?_
    refine a_iload_8 rfl rfl ?_
    refine a_bipush (v := (nI 11)) rfl rfl rfl ?_
    refine a_cmpN_lt rfl rfl rfl (by omega) (by omega) (fun c_213 => False.elim (by omega)) (fun _ => ?_)
    refine a_iload_8 rfl rfl ?_
    refine a_bipush (v := (nI 45)) rfl rfl rfl ?_
    refine a_cmpN_ne rfl rfl rfl (by omega) (by omega) (fun _ => ?_) (fun c_220 => False.elim (by omega))
    refine a_iconst (v := (nI 0)) rfl rfl rfl ?_
    refine a_iload_5 rfl rfl ?_
    refine a_iconst (v := (nI 1)) rfl rfl rfl ?_
    refine a_isubN rfl rfl (by omega) ?_
    refine a_maxN rfl rfl (Nat.le_of_ble_eq_true rfl) (by omega) (by omega) ?_
    refine a_as (y := nI (q.length)) (congrArg nI (by omega)) ?_
    refine a_istore_5 rfl rfl rfl ?_
    refine a_iload_8 rfl rfl ?_
    refine a_aload_0 rfl rfl ?_
    refine a_getr rfl rfl rfl (fun _ _ _ => rfl) rfl ?_
    refine a_iload_5 rfl rfl ?_
    refine a_iald rfl rfl (Or.inl rfl) rfl (by omega) (by decide) ?_
    refine a_as (y := iI (y)) hF.1 ?_
    refine a_iload_4 rfl rfl ?_
    refine a_statI rfl rfl (e_join sg y v c2 hF.2.1 hv) (Nat.le_of_ble_eq_true rfl) ⟨rfl, rfl, rfl⟩ rfl rfl rfl (Nat.le_of_ble_eq_true rfl) rfl ?_
    refine a_istore_4 rfl rfl rfl ?_
    refine a_iinc_7 rfl rfl (nI_inc _ _) rfl ?_
    refine a_goto rfl rfl ?_
    exact Z _ _
/-- the shining reckoner: a whole run -/
theorem k1_run (x : Nat) (hx : x < t) (e : Nat) (he : e ≤ 300) (E : E1) (hE : eOK E) (hN : ∀ j, nmOk 0 j = true → h 35 j = iI (E.1 j)) (n : Nat) : ∀ (a b : V1) (F : Nat → Int32), Run1 0 (h (98 + 7 * x + 4)) E e n a b → (-1000000 ≤ a.2.1 ∧ a.2.1 ≤ 1000000) → sR a.2.2 F → ∃ F', ∀ (r : Option Value × mvSt) y8 y9, (∀ y8 y9, avA 1 105 33 [.ref 33, .ref (98 + 7 * x), .int (nI 0), .null, .int (iI b.2.1), .int (nI b.2.2.length), .int (nI e), .int (nI b.1), y8, y9] [] (sX L t lt rt rp sw (va_up h 34 F') gl) r) → avA 1 105 33 [.ref 33, .ref (98 + 7 * x), .int (nI 0), .null, .int (iI a.2.1), .int (nI a.2.2.length), .int (nI e), .int (nI a.1), y8, y9] [] (sX L t lt rt rp sw (va_up h 34 F) gl) r := by
  induction n with
  | zero =>
    intro a b F hr hv hF
    have e : a = b := hr
    subst e
    exact ⟨F, fun r y8 y9 Z => Z _ _⟩
  | succ n ih =>
    intro a b F hr hv hF
    obtain ⟨hi, c, hS, hr'⟩ := hr
    rcases hS with hS | ⟨_, _, _, _, h0, _⟩
    · obtain ⟨F1, s1, v1, K⟩ := k1_33 (L := L) (t := t) (lt := lt) (rt := rt) (rp := rp) (sw := sw) (gl := gl) x hx 0 e E hE hN a.1 a.2.1 a.2.2 c F hi he hS hv hF
      obtain ⟨F2, K2⟩ := ih c b F1 hr' v1 s1
      exact ⟨F2, fun r y8 y9 Z => K r y8 y9 (fun y8 y9 => K2 r y8 y9 Z)⟩
    · exact absurd rfl h0
theorem k_end_33 (x law e : Nat) (he : e ≤ 300) (v : Int) (q : List Int) (y8 y9 : Value) : avA 1 105 33 [.ref 33, .ref (98 + 7 * x), .int (nI law), .null, .int (iI v), .int (nI q.length), .int (nI e), .int (nI e), y8, y9] [] (sX L t lt rt rp sw h gl) (some (.int (iI v)), sX L t lt rt rp sw h gl) := by
  refine a_iload_7 rfl rfl ?_
  refine a_iload_6 rfl rfl ?_
  refine a_cmpN_ge rfl rfl rfl (by omega) (by omega) (fun _ => ?_) (fun c_37 => False.elim (by omega))
  refine a_iload_4 rfl rfl ?_
  exact a_iret rfl rfl
theorem k_end_36 (x law e : Nat) (he : e ≤ 300) (v : Int) (q : List Int) (y8 y9 : Value) : avA 3 105 33 [.ref 36, .ref (98 + 7 * x), .int (nI law), .ref 8, .int (iI v), .int (nI q.length), .int (nI e), .int (nI e), y8, y9] [] (sX L t lt rt rp sw h gl) (some (.int (iI v)), sX L t lt rt rp sw h gl) := by
  refine a_iload_7 rfl rfl ?_
  refine a_iload_6 rfl rfl ?_
  refine a_cmpN_ge rfl rfl rfl (by omega) (by omega) (fun _ => ?_) (fun c_37 => False.elim (by omega))
  refine a_iload_4 rfl rfl ?_
  exact a_iret rfl rfl
/-- what the class holds of a law in a text's rows (o the text's own id) -/
def lawC (h : Nat → Nat → Int32) (o s : Nat) : Option (E1 → Int) → Prop
  | none => h (o + 5) s = -1
  | some f => fB f ∧ ∃ st en len, h (o + 5) s = nI st ∧ h (o + 6) s = nI en ∧ h o 5 = nI len ∧ st ≤ en ∧ en ≤ len ∧ len ≤ 300 ∧ Sg1 s f (h (o + 4)) st en 61
theorem k_reckon_33 (x : Nat) (hx : x < t) (f : E1 → Int) (hl : lawC h (98 + 7 * x) 0 (some f)) (E : E1) (hE : eOK E) (hN : ∀ j, nmOk 0 j = true → h 35 j = iI (E.1 j)) : ∃ F, avE 1 105 [.ref 33, .ref (98 + 7 * x), .int (nI 0), .null] (sX L t lt rt rp sw h gl) (some (.int (iI (f E))), sX L t lt rt rp sw (va_up h 34 F) gl) := by
  obtain ⟨hf, st, en, len, e1, e2, e3, l1, l2, l3, S⟩ := hl
  obtain ⟨n, R⟩ := S E hE 0 [] (by omega) (Nat.le_refl _)
  obtain ⟨F, K⟩ := k1_run (L := L) (t := t) (lt := lt) (rt := rt) (rp := rp) (sw := sw) (gl := gl) x hx en (by omega) E hE hN n _ _ (h 34) R (by show (-1000000 : Int) ≤ 0 ∧ (0 : Int) ≤ 1000000; omega) trivial
  rw [up_id] at K
  refine ⟨F, ?_⟩
  show avA _ 105 0 [.ref 33, .ref (98 + 7 * x), .int (nI 0), .null, mvU, mvU, mvU, mvU, mvU, mvU] [] _ _
  refine a_iconst (v := iI (0)) rfl rfl rfl ?_
  refine a_istore_4 rfl rfl rfl ?_
  refine a_iconst (v := (nI 0)) rfl rfl rfl ?_
  refine a_istore_5 rfl rfl rfl ?_
  refine a_aload_1 rfl rfl ?_
  refine a_getr rfl rfl (congrArg Prod.fst (tx_t hx)) (fun _ _ _ => rfl) (tx_r7 hx) ?_
  refine a_iload_2 rfl rfl ?_
  refine a_iald rfl rfl (Or.inl (tx_6 hx)) rfl (by omega) (by decide) ?_
  refine a_as (y := nI (en)) e2 ?_
  refine a_aload_1 rfl rfl ?_
  refine a_geti rfl rfl (congrArg Prod.fst (tx_t hx)) (fun _ _ _ => rfl) ?_
  refine a_as (y := nI (len)) e3 ?_
  refine a_minN rfl rfl (Nat.le_of_ble_eq_true rfl) (by omega) (by omega) ?_
  refine a_as (y := nI (en)) (congrArg nI (by omega)) ?_
  refine a_istore_6 rfl rfl rfl ?_
  refine a_iconst (v := (nI 0)) rfl rfl rfl ?_
  refine a_aload_1 rfl rfl ?_
  refine a_getr rfl rfl (congrArg Prod.fst (tx_t hx)) (fun _ _ _ => rfl) (tx_r6 hx) ?_
  refine a_iload_2 rfl rfl ?_
  refine a_iald rfl rfl (Or.inl (tx_5 hx)) rfl (by omega) (by decide) ?_
  refine a_as (y := nI (st)) e1 ?_
  refine a_maxN rfl rfl (Nat.le_of_ble_eq_true rfl) (by omega) (by omega) ?_
  refine a_as (y := nI (st)) (congrArg nI (by omega)) ?_
  refine a_istore_7 rfl rfl rfl ?_
  exact K _ _ _ (fun y8 y9 => k_end_33 x 0 en (by omega) (f E) [0] y8 y9)
end K1
