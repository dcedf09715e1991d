/-! SUMS: the laws' code of the reference, step by step -/
abbrev V2 : Type := Nat × List Int × List Bool
def S2 (law : Nat) (T : Nat → Int32) (c0 : Nat) (E : E1) (i : Nat) (vs : List Int) (ts : List Bool) (b : V2) : Prop := ∃ o v : Nat, o < 64 ∧ v < 20000 ∧ T (c0 + 2 * i) = nI o ∧ T (c0 + 2 * i + 1) = nI v ∧ vs.length < 320 ∧ ts.length < 320 ∧
  ((o = 0 ∧ b = (i + 1, (v : Int) :: vs, ts)) ∨
   (o = 1 ∧ nmOk law v = true ∧ b = (i + 1, E.1 v :: vs, ts)) ∨
   (o = 3 ∧ ∃ x y q tr tq, vs = x :: y :: q ∧ ts = tr :: tq ∧ b = (i + 1, (bif tr then y else x) :: q, tq)) ∨
   (o = 5 ∧ ∃ x q, vs = x :: q ∧ b = (i + 1, -x :: q, ts)) ∨
   (o = 2 ∧ law ≠ 0 ∧ ∃ x q, vs = x :: q ∧ b = (i + 1, E.2 x :: q, ts)) ∨
   (o = 4 ∧ ∃ x y q, vs = x :: y :: q ∧ b = (i + 1, (y + x).tdiv 2 :: q, ts)) ∨
   ((o = 6 ∨ o = 7 ∨ o = 8 ∨ o = 9) ∧ ∃ x y q, vs = x :: y :: q ∧ b = (i + 1, twZ o y x :: q, ts)) ∨
   ((10 ≤ o ∧ o ≤ 15) ∧ ∃ x y q, vs = x :: y :: q ∧ b = (i + 1, q, askZ o y x :: ts)) ∨
   (o = 20 ∧ ∃ p q, ts = p :: q ∧ b = (i + 1, vs, (!p) :: q)) ∨
   ((o = 21 ∨ o = 22) ∧ ∃ p p2 q, ts = p :: p2 :: q ∧ b = (i + 1, vs, (if o = 21 then p2 && p else p2 || p) :: q)))
def Run2 (law : Nat) (T : Nat → Int32) (c0 : Nat) (E : E1) (e : Nat) : Nat → V2 → V2 → Prop
  | 0, a, b => a = b
  | n + 1, a, b => a.1 < e ∧ ∃ c, S2 law T c0 E a.1 a.2.1 a.2.2 c ∧ Run2 law T c0 E e n c b
def sV : List Int → (Nat → Int64) → Prop
  | [], _ => True
  | x :: q, G => G q.length = lI x ∧ (-1000000 ≤ x ∧ x ≤ 1000000) ∧ sV q G
def sT : List Bool → (Nat → Int32) → Prop
  | [], _ => True
  | x :: q, F => F q.length = bB x ∧ sT q F
theorem sV_up {q : List Int} {G : Nat → Int64} {k : Nat} {v : Int64} (hk : q.length ≤ k) (h : sV q G) : sV q (va_up G k v) := by
  induction q with
  | nil => trivial
  | cons x q ih =>
    have hk' : q.length + 1 ≤ k := hk
    refine ⟨?_, h.2.1, ih (by omega) h.2.2⟩
    rw [va_up_ne _ _ (by omega)]
    exact h.1
theorem sT_up {q : List Bool} {F : Nat → Int32} {k : Nat} {v : Int32} (hk : q.length ≤ k) (h : sT q F) : sT q (va_up F k v) := by
  induction q with
  | nil => trivial
  | cons x q ih =>
    have hk' : q.length + 1 ≤ k := hk
    refine ⟨?_, ih (by omega) h.2⟩
    rw [va_up_ne _ _ (by omega)]
    exact h.1
def Sg2 (law : Nat) (f : E1 → Int) (T : Nat → Int32) (c0 s e D : Nat) : Prop := ∀ E, eOK E → ∀ vs ts, vs.length + D ≤ 319 → ts.length + D ≤ 319 → ∃ n, Run2 law T c0 E e n (s, vs, ts) (e, f E :: vs, ts)
def ltOf (LT : Nat → Nat) (v : Int) : Int := if 0 ≤ v ∧ v < 30 then (LT v.toNat : Int) else 0
theorem twZ_B {o : Nat} {y x : Int} : -1000000 ≤ twZ o y x ∧ twZ o y x ≤ 1000000 := by
  unfold twZ
  split
  · exact clp_B _
  · exact clp_B _
  · exact clp_B _
  · split
    · omega
    · exact clp_B _
section SU
variable {L t : Nat} {lt rt rp : Option Nat} {sw : Bool} {h : Nat → Nat → Int32} {gl : Nat → Nat → Int64}
theorem r_lightOf (v : Int) (LT : Nat → Nat) (hv : -1000000 ≤ v ∧ v ≤ 1000000) (hL : ∀ c, c < 30 → h 88 c = nI (LT c) ∧ LT c ≤ 15) : avE 0 261 [.ref 81, .long (lI v)] (sX L t lt rt rp sw h gl) (some (.long (lI (ltOf LT v))), sX L t lt rt rp sw h gl) := by
  by_cases hc : 0 ≤ v ∧ v < 30
  · obtain ⟨n, rfl⟩ : ∃ n : Nat, v = n := ⟨v.toNat, by omega⟩
    obtain ⟨e1, e2⟩ := hL n (by omega)
    have e : ltOf LT (n : Int) = (LT n : Int) := by unfold ltOf; rw [if_pos hc]; rfl
    rw [e]
    show avA _ 261 0 [.ref 81, .long (lI ((n : Int))), mvU] [] _ _
    refine a_lload_1 rfl rfl ?_
    refine a_lconst (v := lI 0) rfl rfl rfl ?_
    refine a_lcmp rfl rfl ?_
    refine a_lc_lt rfl rfl rfl (lI_toInt (by omega) (by omega)) (lI_toInt (by omega) (by omega)) (fun c_3 => False.elim (by omega)) (fun _ => ?_)
    refine a_lload_1 rfl rfl ?_
    refine a_ldc2 (v := lI (30)) rfl rfl rfl ?_
    refine a_lcmp rfl rfl ?_
    refine a_lc_ge rfl rfl rfl (lI_toInt (by omega) (by omega)) (lI_toInt (by omega) (by omega)) (fun c_11 => False.elim (by omega)) (fun _ => ?_)
    refine a_aload_0 rfl rfl ?_
    refine a_getr rfl rfl rfl (fun _ _ _ => rfl) rfl ?_
    refine a_lload_1 rfl rfl ?_
    refine a_l2iZ rfl rfl ?_
    refine a_as (y := nI (n)) (iI_nat n) ?_
    refine a_iald rfl rfl (Or.inl rfl) rfl (by omega) (by decide) ?_
    refine a_as (y := iI ((LT n : Int))) (e1.trans (iI_nat _).symm) ?_
    refine a_i2lZ rfl rfl (by omega) ?_
    refine a_goto rfl rfl ?_
    exact a_lret rfl rfl
  · have e : ltOf LT v = 0 := by unfold ltOf; rw [if_neg hc]
    rw [e]
    show avA _ 261 0 [.ref 81, .long (lI (v)), mvU] [] _ _
    refine a_lload_1 rfl rfl ?_
    refine a_lconst (v := lI 0) rfl rfl rfl ?_
    refine a_lcmp rfl rfl ?_
    refine a_lc_lt rfl rfl rfl (lI_toInt (by omega) (by omega)) (lI_toInt (by omega) (by omega)) (fun c_3 => ?_) (fun c_3 => ?_)
    · refine a_lconst (v := lI 0) rfl rfl rfl ?_
      exact a_lret rfl rfl
    · refine a_lload_1 rfl rfl ?_
      refine a_ldc2 (v := lI (30)) rfl rfl rfl ?_
      refine a_lcmp rfl rfl ?_
      refine a_lc_ge rfl rfl rfl (lI_toInt (by omega) (by omega)) (lI_toInt (by omega) (by omega)) (fun _ => ?_) (fun c_11 => False.elim (by omega))
      refine a_lconst (v := lI 0) rfl rfl rfl ?_
      exact a_lret rfl rfl
theorem k2_s (text cl e : Nat) (ht4 : text < 4) (hcl : cl < 24) (he : e ≤ 303) (law : Nat) (E : E1) (hE : eOK E) (LT : Nat → Nat) (hN : ∀ j, nmOk law j = true → h 87 j = iI (E.1 j)) (hL : law ≠ 0 → (∀ c, c < 30 → h 88 c = nI (LT c) ∧ LT c ≤ 15) ∧ ∀ v, (-1000000 ≤ v ∧ v ≤ 1000000) → E.2 v = ltOf LT v) (hx2 : h 84 (681 * text + 1 + 3 * cl + 2) = nI e) (i : Nat) (vs : List Int) (ts : List Bool) (b : V2) (F : Nat → Int32) (G : Nat → Int64) (hi : i < e) (hS : S2 law (h 84) (681 * text + 73) E i vs ts b) (hG : sV vs G) (hF : sT ts F) : ∃ F' G', sV b.2.1 G' ∧ sT b.2.2 F' ∧ ∀ (r : Option Value × mvSt) y8 y9, (∀ y8 y9, avA 2 260 38 [.ref 81, .int (nI text), .int (nI cl), .int (nI (681 * text + 1 + 3 * cl)), .int (nI (681 * text + 73)), .int (nI b.2.1.length), .int (nI b.2.2.length), .int (nI b.1), y8, y9] [] (sX L t lt rt rp sw (va_up h 90 F') (va_up gl 89 G')) r) → avA 2 260 38 [.ref 81, .int (nI text), .int (nI cl), .int (nI (681 * text + 1 + 3 * cl)), .int (nI (681 * text + 73)), .int (nI vs.length), .int (nI ts.length), .int (nI i), y8, y9] [] (sX L t lt rt rp sw (va_up h 90 F) (va_up gl 89 G)) r := by
  obtain ⟨o, v, g1, g2, g3, g4, g5, g6, C⟩ := hS
  rcases C with ⟨rfl, rfl⟩ | ⟨rfl, c2, rfl⟩ | ⟨rfl, x, y, q, tr, tq, rfl, rfl, rfl⟩ | ⟨rfl, x, q, rfl, rfl⟩ | ⟨rfl, c2, x, q, rfl, rfl⟩ | ⟨rfl, x, y, q, rfl, rfl⟩ | ⟨c1, x, y, q, rfl, rfl⟩ | ⟨c1, x, y, q, rfl, rfl⟩ | ⟨rfl, p, q, rfl, rfl⟩ | ⟨c1, p, p2, q, rfl, rfl⟩
  · refine ⟨F, va_up G vs.length (lI v), ⟨va_up_self _ _ _, by omega, sV_up (Nat.le_refl _) hG⟩, hF, fun r y8 y9 Z => ?_⟩
    refine a_iload_7 rfl rfl ?_
    refine a_aload_0 rfl rfl ?_
    refine a_getr rfl rfl rfl (fun _ _ _ => rfl) rfl ?_
    refine a_iload_3 rfl rfl ?_
    refine a_iconst (v := (nI 2)) rfl rfl rfl ?_
    refine a_iaddN rfl rfl ?_
    refine a_iald rfl rfl (Or.inl rfl) rfl (by omega) (by decide) ?_
    refine a_as (y := nI (e)) hx2 ?_
    refine a_cmpN_ge rfl rfl rfl (by omega) (by omega) (fun c_48 => False.elim (by omega)) (fun _ => ?_)
    refine a_aload_0 rfl rfl ?_
    refine a_getr rfl rfl rfl (fun _ _ _ => rfl) rfl ?_
    refine a_iload_4 rfl rfl ?_
    refine a_iconst (v := (nI 2)) rfl rfl rfl ?_
    refine a_iload_7 rfl rfl ?_
    refine a_imulN rfl rfl ?_
    refine a_iaddN rfl rfl ?_
    refine a_iald rfl rfl (Or.inl rfl) rfl (by omega) (by decide) ?_
    refine a_as (y := nI (0)) g3 ?_
    refine a_istore_8 rfl rfl rfl ?_
    refine a_aload_0 rfl rfl ?_
    refine a_getr rfl rfl rfl (fun _ _ _ => rfl) rfl ?_
    refine a_iload_4 rfl rfl ?_
    refine a_iconst (v := (nI 2)) rfl rfl rfl ?_
    refine a_iload_7 rfl rfl ?_
    refine a_imulN rfl rfl ?_
    refine a_iaddN rfl rfl ?_
    refine a_iconst (v := (nI 1)) rfl rfl rfl ?_
    refine a_iaddN rfl rfl ?_
    refine a_iald rfl rfl (Or.inl rfl) rfl (by omega) (by decide) ?_
    refine a_as (y := nI (v)) g4 ?_
    refine a_istore_9 rfl rfl rfl ?_
    refine a_iload_8 rfl rfl ?_
    refine a_iconst (v := (nI 1)) rfl rfl rfl ?_
    refine a_cmpN_gt rfl rfl rfl (by omega) (by omega) (fun c_84 => False.elim (by omega)) (fun _ => ?_)
    refine a_aload_0 rfl rfl ?_
    refine a_getr rfl rfl rfl (fun _ _ _ => rfl) rfl ?_
    refine a_iload_5 rfl rfl ?_
    refine a_iload_8 rfl rfl ?_
    refine a_ifN_ne rfl rfl rfl (by omega) (fun c_95 => False.elim (by omega)) (fun _ => ?_)
    refine a_iload_9 rfl rfl ?_
    refine a_as (y := iI ((v : Int))) (iI_nat v).symm ?_
    refine a_i2lZ rfl rfl (by omega) ?_
    refine a_goto rfl rfl ?_
    refine a_last rfl rfl rfl rfl (by omega) (by decide) ?_
    rw [up_put]
    refine a_iinc_5 rfl rfl (nI_inc _ _) rfl ?_
    refine a_goto rfl rfl ?_
    refine a_iinc_7 rfl rfl (nI_inc _ _) rfl ?_
    refine a_goto rfl rfl ?_
    exact Z _ _
  · have hv := nmOk_lt c2
    have hB := hE.1 v
    refine ⟨F, va_up G vs.length (lI (E.1 v)), ⟨va_up_self _ _ _, hE.1 v, sV_up (Nat.le_refl _) hG⟩, hF, fun r y8 y9 Z => ?_⟩
    refine a_iload_7 rfl rfl ?_
    refine a_aload_0 rfl rfl ?_
    refine a_getr rfl rfl rfl (fun _ _ _ => rfl) rfl ?_
    refine a_iload_3 rfl rfl ?_
    refine a_iconst (v := (nI 2)) rfl rfl rfl ?_
    refine a_iaddN rfl rfl ?_
    refine a_iald rfl rfl (Or.inl rfl) rfl (by omega) (by decide) ?_
    refine a_as (y := nI (e)) hx2 ?_
    refine a_cmpN_ge rfl rfl rfl (by omega) (by omega) (fun c_48 => False.elim (by omega)) (fun _ => ?_)
    refine a_aload_0 rfl rfl ?_
    refine a_getr rfl rfl rfl (fun _ _ _ => rfl) rfl ?_
    refine a_iload_4 rfl rfl ?_
    refine a_iconst (v := (nI 2)) rfl rfl rfl ?_
    refine a_iload_7 rfl rfl ?_
    refine a_imulN rfl rfl ?_
    refine a_iaddN rfl rfl ?_
    refine a_iald rfl rfl (Or.inl rfl) rfl (by omega) (by decide) ?_
    refine a_as (y := nI (1)) g3 ?_
    refine a_istore_8 rfl rfl rfl ?_
    refine a_aload_0 rfl rfl ?_
    refine a_getr rfl rfl rfl (fun _ _ _ => rfl) rfl ?_
    refine a_iload_4 rfl rfl ?_
    refine a_iconst (v := (nI 2)) rfl rfl rfl ?_
    refine a_iload_7 rfl rfl ?_
    refine a_imulN rfl rfl ?_
    refine a_iaddN rfl rfl ?_
    refine a_iconst (v := (nI 1)) rfl rfl rfl ?_
    refine a_iaddN rfl rfl ?_
    refine a_iald rfl rfl (Or.inl rfl) rfl (by omega) (by decide) ?_
    refine a_as (y := nI (v)) g4 ?_
    refine a_istore_9 rfl rfl rfl ?_
    refine a_iload_8 rfl rfl ?_
    refine a_iconst (v := (nI 1)) rfl rfl rfl ?_
    refine a_cmpN_gt rfl rfl rfl (by omega) (by omega) (fun c_84 => False.elim (by omega)) (fun _ => ?_)
    refine a_aload_0 rfl rfl ?_
    refine a_getr rfl rfl rfl (fun _ _ _ => rfl) rfl ?_
    refine a_iload_5 rfl rfl ?_
    refine a_iload_8 rfl rfl ?_
    refine a_ifN_ne rfl rfl rfl (by omega) (fun _ => ?_) (fun c_95 => False.elim (by omega))
    refine a_aload_0 rfl rfl ?_
    refine a_getr rfl rfl rfl (fun _ _ _ => rfl) rfl ?_
    refine a_iload_9 rfl rfl ?_
    refine a_iald rfl rfl (Or.inl rfl) rfl (by omega) (by decide) ?_
    refine a_as (y := iI (E.1 v)) (hN v c2) ?_
    refine a_i2lZ rfl rfl (by omega) ?_
    refine a_last rfl rfl rfl rfl (by omega) (by decide) ?_
    rw [up_put]
    refine a_iinc_5 rfl rfl (nI_inc _ _) rfl ?_
    refine a_goto rfl rfl ?_
    refine a_iinc_7 rfl rfl (nI_inc _ _) rfl ?_
    refine a_goto rfl rfl ?_
    exact Z _ _
  · have l1 : (x :: y :: q).length = q.length + 2 := rfl
    have l2 : (tr :: tq).length = tq.length + 1 := rfl
    rw [l1] at g5 ⊢
    rw [l2] at g6 ⊢
    cases tr with
    | true =>
      refine ⟨F, G, ⟨hG.2.2.1, hG.2.2.2.1, hG.2.2.2.2⟩, hF.2, fun r y8 y9 Z => ?_⟩
      refine a_iload_7 rfl rfl ?_
      refine a_aload_0 rfl rfl ?_
      refine a_getr rfl rfl rfl (fun _ _ _ => rfl) rfl ?_
      refine a_iload_3 rfl rfl ?_
      refine a_iconst (v := (nI 2)) rfl rfl rfl ?_
      refine a_iaddN rfl rfl ?_
      refine a_iald rfl rfl (Or.inl rfl) rfl (by omega) (by decide) ?_
      refine a_as (y := nI (e)) hx2 ?_
      refine a_cmpN_ge rfl rfl rfl (by omega) (by omega) (fun c_48 => False.elim (by omega)) (fun _ => ?_)
      refine a_aload_0 rfl rfl ?_
      refine a_getr rfl rfl rfl (fun _ _ _ => rfl) rfl ?_
      refine a_iload_4 rfl rfl ?_
      refine a_iconst (v := (nI 2)) rfl rfl rfl ?_
      refine a_iload_7 rfl rfl ?_
      refine a_imulN rfl rfl ?_
      refine a_iaddN rfl rfl ?_
      refine a_iald rfl rfl (Or.inl rfl) rfl (by omega) (by decide) ?_
      refine a_as (y := nI (3)) g3 ?_
      refine a_istore_8 rfl rfl rfl ?_
      refine a_aload_0 rfl rfl ?_
      refine a_getr rfl rfl rfl (fun _ _ _ => rfl) rfl ?_
      refine a_iload_4 rfl rfl ?_
      refine a_iconst (v := (nI 2)) rfl rfl rfl ?_
      refine a_iload_7 rfl rfl ?_
      refine a_imulN rfl rfl ?_
      refine a_iaddN rfl rfl ?_
      refine a_iconst (v := (nI 1)) rfl rfl rfl ?_
      refine a_iaddN rfl rfl ?_
      refine a_iald rfl rfl (Or.inl rfl) rfl (by omega) (by decide) ?_
      refine a_as (y := nI (v)) g4 ?_
      refine a_istore_9 rfl rfl rfl ?_
      refine a_iload_8 rfl rfl ?_
      refine a_iconst (v := (nI 1)) rfl rfl rfl ?_
      refine a_cmpN_gt rfl rfl rfl (by omega) (by omega) (fun _ => ?_) (fun c_84 => False.elim (by omega))
      refine a_iload_8 rfl rfl ?_
      refine a_iconst (v := (nI 3)) rfl rfl rfl ?_
      refine a_cmpN_ne rfl rfl rfl (by omega) (by omega) (fun c_122 => False.elim (by omega)) (fun _ => ?_)
      refine a_iinc_5 rfl rfl ((nI_dec (q.length + 2) 1 (by omega)).trans (congrArg nI (by omega)) : nI (q.length + 2) + Int32.ofInt (-((1 : Nat) : Int)) = nI (q.length + 1)) rfl ?_
      refine a_iinc_6 rfl rfl ((nI_dec (tq.length + 1) 1 (by omega)).trans (congrArg nI (by omega)) : nI (tq.length + 1) + Int32.ofInt (-((1 : Nat) : Int)) = nI tq.length) rfl ?_
      refine a_aload_0 rfl rfl ?_
      refine a_getr rfl rfl rfl (fun _ _ _ => rfl) rfl ?_
      refine a_iload_6 rfl rfl ?_
      refine a_bald rfl rfl (Or.inl rfl) rfl (by omega) (by decide) ?_
      refine a_as (y := nI (1)) hF.1 ?_
      refine a_ifN_ne rfl rfl rfl (by omega) (fun _ => ?_) (fun c_138 => False.elim (by omega))
      refine a_iinc_7 rfl rfl (nI_inc _ _) rfl ?_
      refine a_goto rfl rfl ?_
      exact Z _ _
    | false =>
      refine ⟨F, va_up G q.length (lI x), ⟨va_up_self _ _ _, hG.2.1, sV_up (Nat.le_refl _) hG.2.2.2.2⟩, hF.2, fun r y8 y9 Z => ?_⟩
      refine a_iload_7 rfl rfl ?_
      refine a_aload_0 rfl rfl ?_
      refine a_getr rfl rfl rfl (fun _ _ _ => rfl) rfl ?_
      refine a_iload_3 rfl rfl ?_
      refine a_iconst (v := (nI 2)) rfl rfl rfl ?_
      refine a_iaddN rfl rfl ?_
      refine a_iald rfl rfl (Or.inl rfl) rfl (by omega) (by decide) ?_
      refine a_as (y := nI (e)) hx2 ?_
      refine a_cmpN_ge rfl rfl rfl (by omega) (by omega) (fun c_48 => False.elim (by omega)) (fun _ => ?_)
      refine a_aload_0 rfl rfl ?_
      refine a_getr rfl rfl rfl (fun _ _ _ => rfl) rfl ?_
      refine a_iload_4 rfl rfl ?_
      refine a_iconst (v := (nI 2)) rfl rfl rfl ?_
      refine a_iload_7 rfl rfl ?_
      refine a_imulN rfl rfl ?_
      refine a_iaddN rfl rfl ?_
      refine a_iald rfl rfl (Or.inl rfl) rfl (by omega) (by decide) ?_
      refine a_as (y := nI (3)) g3 ?_
      refine a_istore_8 rfl rfl rfl ?_
      refine a_aload_0 rfl rfl ?_
      refine a_getr rfl rfl rfl (fun _ _ _ => rfl) rfl ?_
      refine a_iload_4 rfl rfl ?_
      refine a_iconst (v := (nI 2)) rfl rfl rfl ?_
      refine a_iload_7 rfl rfl ?_
      refine a_imulN rfl rfl ?_
      refine a_iaddN rfl rfl ?_
      refine a_iconst (v := (nI 1)) rfl rfl rfl ?_
      refine a_iaddN rfl rfl ?_
      refine a_iald rfl rfl (Or.inl rfl) rfl (by omega) (by decide) ?_
      refine a_as (y := nI (v)) g4 ?_
      refine a_istore_9 rfl rfl rfl ?_
      refine a_iload_8 rfl rfl ?_
      refine a_iconst (v := (nI 1)) rfl rfl rfl ?_
      refine a_cmpN_gt rfl rfl rfl (by omega) (by omega) (fun _ => ?_) (fun c_84 => False.elim (by omega))
      refine a_iload_8 rfl rfl ?_
      refine a_iconst (v := (nI 3)) rfl rfl rfl ?_
      refine a_cmpN_ne rfl rfl rfl (by omega) (by omega) (fun c_122 => False.elim (by omega)) (fun _ => ?_)
      refine a_iinc_5 rfl rfl ((nI_dec (q.length + 2) 1 (by omega)).trans (congrArg nI (by omega)) : nI (q.length + 2) + Int32.ofInt (-((1 : Nat) : Int)) = nI (q.length + 1)) rfl ?_
      refine a_iinc_6 rfl rfl ((nI_dec (tq.length + 1) 1 (by omega)).trans (congrArg nI (by omega)) : nI (tq.length + 1) + Int32.ofInt (-((1 : Nat) : Int)) = nI tq.length) rfl ?_
      refine a_aload_0 rfl rfl ?_
      refine a_getr rfl rfl rfl (fun _ _ _ => rfl) rfl ?_
      refine a_iload_6 rfl rfl ?_
      refine a_bald rfl rfl (Or.inl rfl) rfl (by omega) (by decide) ?_
      refine a_as (y := nI (0)) hF.1 ?_
      refine a_ifN_ne rfl rfl rfl (by omega) (fun c_138 => False.elim (by omega)) (fun _ => ?_)
      refine a_aload_0 rfl rfl ?_
      refine a_getr rfl rfl rfl (fun _ _ _ => rfl) rfl ?_
      refine a_iload_5 rfl rfl ?_
      refine a_iconst (v := (nI 1)) rfl rfl rfl ?_
      refine a_isubN rfl rfl (by omega) ?_
      refine a_aload_0 rfl rfl ?_
      refine a_getr rfl rfl rfl (fun _ _ _ => rfl) rfl ?_
      refine a_iload_5 rfl rfl ?_
      refine a_lald rfl rfl rfl rfl (by omega) (by decide) ?_
      refine a_asL (y := lI (x)) hG.1 ?_
      refine a_last rfl rfl rfl rfl (by omega) (by decide) ?_
      rw [up_put]
      refine a_goto rfl rfl ?_
      refine a_iinc_7 rfl rfl (nI_inc _ _) rfl ?_
      refine a_goto rfl rfl ?_
      exact Z _ _
  · have l1 : (x :: q).length = q.length + 1 := rfl
    rw [l1] at g5 ⊢
    have hB := hG.2.1
    refine ⟨F, va_up G q.length (lI (-x)), ⟨va_up_self _ _ _, by omega, sV_up (Nat.le_refl _) hG.2.2⟩, hF, fun r y8 y9 Z => ?_⟩
    refine a_iload_7 rfl rfl ?_
    refine a_aload_0 rfl rfl ?_
    refine a_getr rfl rfl rfl (fun _ _ _ => rfl) rfl ?_
    refine a_iload_3 rfl rfl ?_
    refine a_iconst (v := (nI 2)) rfl rfl rfl ?_
    refine a_iaddN rfl rfl ?_
    refine a_iald rfl rfl (Or.inl rfl) rfl (by omega) (by decide) ?_
    refine a_as (y := nI (e)) hx2 ?_
    refine a_cmpN_ge rfl rfl rfl (by omega) (by omega) (fun c_48 => False.elim (by omega)) (fun _ => ?_)
    refine a_aload_0 rfl rfl ?_
    refine a_getr rfl rfl rfl (fun _ _ _ => rfl) rfl ?_
    refine a_iload_4 rfl rfl ?_
    refine a_iconst (v := (nI 2)) rfl rfl rfl ?_
    refine a_iload_7 rfl rfl ?_
    refine a_imulN rfl rfl ?_
    refine a_iaddN rfl rfl ?_
    refine a_iald rfl rfl (Or.inl rfl) rfl (by omega) (by decide) ?_
    refine a_as (y := nI (5)) g3 ?_
    refine a_istore_8 rfl rfl rfl ?_
    refine a_aload_0 rfl rfl ?_
    refine a_getr rfl rfl rfl (fun _ _ _ => rfl) rfl ?_
    refine a_iload_4 rfl rfl ?_
    refine a_iconst (v := (nI 2)) rfl rfl rfl ?_
    refine a_iload_7 rfl rfl ?_
    refine a_imulN rfl rfl ?_
    refine a_iaddN rfl rfl ?_
    refine a_iconst (v := (nI 1)) rfl rfl rfl ?_
    refine a_iaddN rfl rfl ?_
    refine a_iald rfl rfl (Or.inl rfl) rfl (by omega) (by decide) ?_
    refine a_as (y := nI (v)) g4 ?_
    refine a_istore_9 rfl rfl rfl ?_
    refine a_iload_8 rfl rfl ?_
    refine a_iconst (v := (nI 1)) rfl rfl rfl ?_
    refine a_cmpN_gt rfl rfl rfl (by omega) (by omega) (fun _ => ?_) (fun c_84 => False.elim (by omega))
    refine a_iload_8 rfl rfl ?_
    refine a_iconst (v := (nI 3)) rfl rfl rfl ?_
    refine a_cmpN_ne rfl rfl rfl (by omega) (by omega) (fun _ => ?_) (fun c_122 => False.elim (by omega))
    refine a_iload_8 rfl rfl ?_
    refine a_iconst (v := (nI 5)) rfl rfl rfl ?_
    refine a_cmpN_eq rfl rfl rfl (by omega) (by omega) (fun _ => ?_) (fun c_163 => False.elim (by omega))
    refine a_aload_0 rfl rfl ?_
    refine a_getr rfl rfl rfl (fun _ _ _ => rfl) rfl ?_
    refine a_iload_5 rfl rfl ?_
    refine a_iconst (v := (nI 1)) rfl rfl rfl ?_
    refine a_isubN rfl rfl (by omega) ?_
    refine a_iload_8 rfl rfl ?_
    refine a_iconst (v := (nI 5)) rfl rfl rfl ?_
    refine a_cmpN_ne rfl rfl rfl (by omega) (by omega) (fun c_183 => False.elim (by omega)) (fun _ => ?_)
    refine a_aload_0 rfl rfl ?_
    refine a_getr rfl rfl rfl (fun _ _ _ => rfl) rfl ?_
    refine a_iload_5 rfl rfl ?_
    refine a_iconst (v := (nI 1)) rfl rfl rfl ?_
    refine a_isubN rfl rfl (by omega) ?_
    refine a_lald rfl rfl rfl rfl (by omega) (by decide) ?_
    refine a_asL (y := lI (x)) hG.1 ?_
    refine a_lnegZ rfl rfl ?_
    refine a_goto rfl rfl ?_
    refine a_last rfl rfl rfl rfl (by omega) (by decide) ?_
    rw [up_put]
    refine a_goto rfl rfl ?_
    refine a_iinc_7 rfl rfl (nI_inc _ _) rfl ?_
    refine a_goto rfl rfl ?_
    exact Z _ _
  · have l1 : (x :: q).length = q.length + 1 := rfl
    rw [l1] at g5 ⊢
    have hB := hG.2.1
    obtain ⟨hL1, hL2⟩ := hL c2
    have e2 := hL2 x hB
    refine ⟨F, va_up G q.length (lI (E.2 x)), ⟨va_up_self _ _ _, hE.2 x, sV_up (Nat.le_refl _) hG.2.2⟩, hF, fun r y8 y9 Z => ?_⟩
    refine a_iload_7 rfl rfl ?_
    refine a_aload_0 rfl rfl ?_
    refine a_getr rfl rfl rfl (fun _ _ _ => rfl) rfl ?_
    refine a_iload_3 rfl rfl ?_
    refine a_iconst (v := (nI 2)) rfl rfl rfl ?_
    refine a_iaddN rfl rfl ?_
    refine a_iald rfl rfl (Or.inl rfl) rfl (by omega) (by decide) ?_
    refine a_as (y := nI (e)) hx2 ?_
    refine a_cmpN_ge rfl rfl rfl (by omega) (by omega) (fun c_48 => False.elim (by omega)) (fun _ => ?_)
    refine a_aload_0 rfl rfl ?_
    refine a_getr rfl rfl rfl (fun _ _ _ => rfl) rfl ?_
    refine a_iload_4 rfl rfl ?_
    refine a_iconst (v := (nI 2)) rfl rfl rfl ?_
    refine a_iload_7 rfl rfl ?_
    refine a_imulN rfl rfl ?_
    refine a_iaddN rfl rfl ?_
    refine a_iald rfl rfl (Or.inl rfl) rfl (by omega) (by decide) ?_
    refine a_as (y := nI (2)) g3 ?_
    refine a_istore_8 rfl rfl rfl ?_
    refine a_aload_0 rfl rfl ?_
    refine a_getr rfl rfl rfl (fun _ _ _ => rfl) rfl ?_
    refine a_iload_4 rfl rfl ?_
    refine a_iconst (v := (nI 2)) rfl rfl rfl ?_
    refine a_iload_7 rfl rfl ?_
    refine a_imulN rfl rfl ?_
    refine a_iaddN rfl rfl ?_
    refine a_iconst (v := (nI 1)) rfl rfl rfl ?_
    refine a_iaddN rfl rfl ?_
    refine a_iald rfl rfl (Or.inl rfl) rfl (by omega) (by decide) ?_
    refine a_as (y := nI (v)) g4 ?_
    refine a_istore_9 rfl rfl rfl ?_
    refine a_iload_8 rfl rfl ?_
    refine a_iconst (v := (nI 1)) rfl rfl rfl ?_
    refine a_cmpN_gt rfl rfl rfl (by omega) (by omega) (fun _ => ?_) (fun c_84 => False.elim (by omega))
    refine a_iload_8 rfl rfl ?_
    refine a_iconst (v := (nI 3)) rfl rfl rfl ?_
    refine a_cmpN_ne rfl rfl rfl (by omega) (by omega) (fun _ => ?_) (fun c_122 => False.elim (by omega))
    refine a_iload_8 rfl rfl ?_
    refine a_iconst (v := (nI 5)) rfl rfl rfl ?_
    refine a_cmpN_eq rfl rfl rfl (by omega) (by omega) (fun c_163 => False.elim (by omega)) (fun _ => ?_)
    refine a_iload_8 rfl rfl ?_
    refine a_iconst (v := (nI 2)) rfl rfl rfl ?_
    refine a_cmpN_ne rfl rfl rfl (by omega) (by omega) (fun c_169 => False.elim (by omega)) (fun _ => ?_)
    refine a_aload_0 rfl rfl ?_
    refine a_getr rfl rfl rfl (fun _ _ _ => rfl) rfl ?_
    refine a_iload_5 rfl rfl ?_
    refine a_iconst (v := (nI 1)) rfl rfl rfl ?_
    refine a_isubN rfl rfl (by omega) ?_
    refine a_iload_8 rfl rfl ?_
    refine a_iconst (v := (nI 5)) rfl rfl rfl ?_
    refine a_cmpN_ne rfl rfl rfl (by omega) (by omega) (fun _ => ?_) (fun c_183 => False.elim (by omega))
    refine a_aload_0 rfl rfl ?_
    refine a_aload_0 rfl rfl ?_
    refine a_getr rfl rfl rfl (fun _ _ _ => rfl) rfl ?_
    refine a_iload_5 rfl rfl ?_
    refine a_iconst (v := (nI 1)) rfl rfl rfl ?_
    refine a_isubN rfl rfl (by omega) ?_
    refine a_lald rfl rfl rfl rfl (by omega) (by decide) ?_
    refine a_asL (y := lI (x)) hG.1 ?_
    refine a_virtL rfl rfl (r_lightOf x LT hB hL1) (Nat.le_of_ble_eq_true rfl) ⟨rfl, rfl, rfl, rfl⟩ rfl rfl rfl (Nat.le_of_ble_eq_true rfl) rfl rfl ?_
    refine a_asL (y := lI (E.2 x)) (congrArg lI e2.symm) ?_
    refine a_last rfl rfl rfl rfl (by omega) (by decide) ?_
    rw [up_put]
    refine a_goto rfl rfl ?_
    refine a_iinc_7 rfl rfl (nI_inc _ _) rfl ?_
    refine a_goto rfl rfl ?_
    exact Z _ _
  · have l1 : (x :: y :: q).length = q.length + 2 := rfl
    rw [l1] at g5 ⊢
    have hB := hG.2.1
    have hB2 := hG.2.2.2.1
    refine ⟨F, va_up G q.length (lI ((y + x).tdiv 2)), ⟨va_up_self _ _ _, tdiv2B hB hB2, sV_up (Nat.le_refl _) hG.2.2.2.2⟩, hF, fun r y8 y9 Z => ?_⟩
    refine a_iload_7 rfl rfl ?_
    refine a_aload_0 rfl rfl ?_
    refine a_getr rfl rfl rfl (fun _ _ _ => rfl) rfl ?_
    refine a_iload_3 rfl rfl ?_
    refine a_iconst (v := (nI 2)) rfl rfl rfl ?_
    refine a_iaddN rfl rfl ?_
    refine a_iald rfl rfl (Or.inl rfl) rfl (by omega) (by decide) ?_
    refine a_as (y := nI (e)) hx2 ?_
    refine a_cmpN_ge rfl rfl rfl (by omega) (by omega) (fun c_48 => False.elim (by omega)) (fun _ => ?_)
    refine a_aload_0 rfl rfl ?_
    refine a_getr rfl rfl rfl (fun _ _ _ => rfl) rfl ?_
    refine a_iload_4 rfl rfl ?_
    refine a_iconst (v := (nI 2)) rfl rfl rfl ?_
    refine a_iload_7 rfl rfl ?_
    refine a_imulN rfl rfl ?_
    refine a_iaddN rfl rfl ?_
    refine a_iald rfl rfl (Or.inl rfl) rfl (by omega) (by decide) ?_
    refine a_as (y := nI (4)) g3 ?_
    refine a_istore_8 rfl rfl rfl ?_
    refine a_aload_0 rfl rfl ?_
    refine a_getr rfl rfl rfl (fun _ _ _ => rfl) rfl ?_
    refine a_iload_4 rfl rfl ?_
    refine a_iconst (v := (nI 2)) rfl rfl rfl ?_
    refine a_iload_7 rfl rfl ?_
    refine a_imulN rfl rfl ?_
    refine a_iaddN rfl rfl ?_
    refine a_iconst (v := (nI 1)) rfl rfl rfl ?_
    refine a_iaddN rfl rfl ?_
    refine a_iald rfl rfl (Or.inl rfl) rfl (by omega) (by decide) ?_
    refine a_as (y := nI (v)) g4 ?_
    refine a_istore_9 rfl rfl rfl ?_
    refine a_iload_8 rfl rfl ?_
    refine a_iconst (v := (nI 1)) rfl rfl rfl ?_
    refine a_cmpN_gt rfl rfl rfl (by omega) (by omega) (fun _ => ?_) (fun c_84 => False.elim (by omega))
    refine a_iload_8 rfl rfl ?_
    refine a_iconst (v := (nI 3)) rfl rfl rfl ?_
    refine a_cmpN_ne rfl rfl rfl (by omega) (by omega) (fun _ => ?_) (fun c_122 => False.elim (by omega))
    refine a_iload_8 rfl rfl ?_
    refine a_iconst (v := (nI 5)) rfl rfl rfl ?_
    refine a_cmpN_eq rfl rfl rfl (by omega) (by omega) (fun c_163 => False.elim (by omega)) (fun _ => ?_)
    refine a_iload_8 rfl rfl ?_
    refine a_iconst (v := (nI 2)) rfl rfl rfl ?_
    refine a_cmpN_ne rfl rfl rfl (by omega) (by omega) (fun _ => ?_) (fun c_169 => False.elim (by omega))
    refine a_iload_8 rfl rfl ?_
    refine a_bipush (v := (nI 10)) rfl rfl rfl ?_
    refine a_cmpN_ge rfl rfl rfl (by omega) (by omega) (fun c_220 => False.elim (by omega)) (fun _ => ?_)
    refine a_iinc_5 rfl rfl ((nI_dec (q.length + 2) 1 (by omega)).trans (congrArg nI (by omega)) : nI (q.length + 2) + Int32.ofInt (-((1 : Nat) : Int)) = nI (q.length + 1)) rfl ?_
    refine a_aload_0 rfl rfl ?_
    refine a_getr rfl rfl rfl (fun _ _ _ => rfl) rfl ?_
    refine a_iload_5 rfl rfl ?_
    refine a_iconst (v := (nI 1)) rfl rfl rfl ?_
    refine a_isubN rfl rfl (by omega) ?_
    refine a_iload_8 rfl rfl ?_
    refine a_iconst (v := (nI 4)) rfl rfl rfl ?_
    refine a_cmpN_ne rfl rfl rfl (by omega) (by omega) (fun c_237 => False.elim (by omega)) (fun _ => ?_)
    refine a_aload_0 rfl rfl ?_
    refine a_getr rfl rfl rfl (fun _ _ _ => rfl) rfl ?_
    refine a_iload_5 rfl rfl ?_
    refine a_iconst (v := (nI 1)) rfl rfl rfl ?_
    refine a_isubN rfl rfl (by omega) ?_
    refine a_lald rfl rfl rfl rfl (by omega) (by decide) ?_
    refine a_asL (y := lI (y)) hG.2.2.1 ?_
    refine a_aload_0 rfl rfl ?_
    refine a_getr rfl rfl rfl (fun _ _ _ => rfl) rfl ?_
    refine a_iload_5 rfl rfl ?_
    refine a_lald rfl rfl rfl rfl (by omega) (by decide) ?_
    refine a_asL (y := lI (x)) hG.1 ?_
    refine a_statL rfl rfl (r_meanOf y x hB2 hB) (Nat.le_of_ble_eq_true rfl) ⟨rfl, rfl, rfl⟩ rfl rfl rfl (Nat.le_of_ble_eq_true rfl) rfl ?_
    refine a_goto rfl rfl ?_
    refine a_last rfl rfl rfl rfl (by omega) (by decide) ?_
    rw [up_put]
    refine a_goto rfl rfl ?_
    refine a_iinc_7 rfl rfl (nI_inc _ _) rfl ?_
    refine a_goto rfl rfl ?_
    exact Z _ _
  · have l1 : (x :: y :: q).length = q.length + 2 := rfl
    rw [l1] at g5 ⊢
    have hB := hG.2.1
    have hB2 := hG.2.2.2.1
    refine ⟨F, va_up G q.length (lI (twZ o y x)), ⟨va_up_self _ _ _, twZ_B, sV_up (Nat.le_refl _) hG.2.2.2.2⟩, hF, fun r y8 y9 Z => ?_⟩
    refine a_iload_7 rfl rfl ?_
    refine a_aload_0 rfl rfl ?_
    refine a_getr rfl rfl rfl (fun _ _ _ => rfl) rfl ?_
    refine a_iload_3 rfl rfl ?_
    refine a_iconst (v := (nI 2)) rfl rfl rfl ?_
    refine a_iaddN rfl rfl ?_
    refine a_iald rfl rfl (Or.inl rfl) rfl (by omega) (by decide) ?_
    refine a_as (y := nI (e)) hx2 ?_
    refine a_cmpN_ge rfl rfl rfl (by omega) (by omega) (fun c_48 => False.elim (by omega)) (fun _ => ?_)
    refine a_aload_0 rfl rfl ?_
    refine a_getr rfl rfl rfl (fun _ _ _ => rfl) rfl ?_
    refine a_iload_4 rfl rfl ?_
    refine a_iconst (v := (nI 2)) rfl rfl rfl ?_
    refine a_iload_7 rfl rfl ?_
    refine a_imulN rfl rfl ?_
    refine a_iaddN rfl rfl ?_
    refine a_iald rfl rfl (Or.inl rfl) rfl (by omega) (by decide) ?_
    refine a_as (y := nI (o)) g3 ?_
    refine a_istore_8 rfl rfl rfl ?_
    refine a_aload_0 rfl rfl ?_
    refine a_getr rfl rfl rfl (fun _ _ _ => rfl) rfl ?_
    refine a_iload_4 rfl rfl ?_
    refine a_iconst (v := (nI 2)) rfl rfl rfl ?_
    refine a_iload_7 rfl rfl ?_
    refine a_imulN rfl rfl ?_
    refine a_iaddN rfl rfl ?_
    refine a_iconst (v := (nI 1)) rfl rfl rfl ?_
    refine a_iaddN rfl rfl ?_
    refine a_iald rfl rfl (Or.inl rfl) rfl (by omega) (by decide) ?_
    refine a_as (y := nI (v)) g4 ?_
    refine a_istore_9 rfl rfl rfl ?_
    refine a_iload_8 rfl rfl ?_
    refine a_iconst (v := (nI 1)) rfl rfl rfl ?_
    refine a_cmpN_gt rfl rfl rfl (by omega) (by omega) (fun _ => ?_) (fun c_84 => False.elim (by omega))
    refine a_iload_8 rfl rfl ?_
    refine a_iconst (v := (nI 3)) rfl rfl rfl ?_
    refine a_cmpN_ne rfl rfl rfl (by omega) (by omega) (fun _ => ?_) (fun c_122 => False.elim (by omega))
    refine a_iload_8 rfl rfl ?_
    refine a_iconst (v := (nI 5)) rfl rfl rfl ?_
    refine a_cmpN_eq rfl rfl rfl (by omega) (by omega) (fun c_163 => False.elim (by omega)) (fun _ => ?_)
    refine a_iload_8 rfl rfl ?_
    refine a_iconst (v := (nI 2)) rfl rfl rfl ?_
    refine a_cmpN_ne rfl rfl rfl (by omega) (by omega) (fun _ => ?_) (fun c_169 => False.elim (by omega))
    refine a_iload_8 rfl rfl ?_
    refine a_bipush (v := (nI 10)) rfl rfl rfl ?_
    refine a_cmpN_ge rfl rfl rfl (by omega) (by omega) (fun c_220 => False.elim (by omega)) (fun _ => ?_)
    refine a_iinc_5 rfl rfl ((nI_dec (q.length + 2) 1 (by omega)).trans (congrArg nI (by omega)) : nI (q.length + 2) + Int32.ofInt (-((1 : Nat) : Int)) = nI (q.length + 1)) rfl ?_
    refine a_aload_0 rfl rfl ?_
    refine a_getr rfl rfl rfl (fun _ _ _ => rfl) rfl ?_
    refine a_iload_5 rfl rfl ?_
    refine a_iconst (v := (nI 1)) rfl rfl rfl ?_
    refine a_isubN rfl rfl (by omega) ?_
    refine a_iload_8 rfl rfl ?_
    refine a_iconst (v := (nI 4)) rfl rfl rfl ?_
    refine a_cmpN_ne rfl rfl rfl (by omega) (by omega) (fun _ => ?_) (fun c_237 => False.elim (by omega))
    refine a_iload_8 rfl rfl ?_
    refine a_aload_0 rfl rfl ?_
    refine a_getr rfl rfl rfl (fun _ _ _ => rfl) rfl ?_
    refine a_iload_5 rfl rfl ?_
    refine a_iconst (v := (nI 1)) rfl rfl rfl ?_
    refine a_isubN rfl rfl (by omega) ?_
    refine a_lald rfl rfl rfl rfl (by omega) (by decide) ?_
    refine a_asL (y := lI (y)) hG.2.2.1 ?_
    refine a_aload_0 rfl rfl ?_
    refine a_getr rfl rfl rfl (fun _ _ _ => rfl) rfl ?_
    refine a_iload_5 rfl rfl ?_
    refine a_lald rfl rfl rfl rfl (by omega) (by decide) ?_
    refine a_asL (y := lI (x)) hG.1 ?_
    refine a_statL rfl rfl (r_two o y x c1 hB2 hB) (Nat.le_of_ble_eq_true rfl) ⟨rfl, rfl, rfl⟩ rfl rfl rfl (Nat.le_of_ble_eq_true rfl) rfl ?_
    refine a_last rfl rfl rfl rfl (by omega) (by decide) ?_
    rw [up_put]
    refine a_goto rfl rfl ?_
    refine a_iinc_7 rfl rfl (nI_inc _ _) rfl ?_
    refine a_goto rfl rfl ?_
    exact Z _ _
  · have l1 : (x :: y :: q).length = q.length + 2 := rfl
    rw [l1] at g5 ⊢
    have hB := hG.2.1
    have hB2 := hG.2.2.2.1
    refine ⟨va_up F ts.length (bB (askZ o y x)), G, hG.2.2.2.2, ⟨va_up_self _ _ _, sT_up (Nat.le_refl _) hF⟩, fun r y8 y9 Z => ?_⟩
    refine a_iload_7 rfl rfl ?_
    refine a_aload_0 rfl rfl ?_
    refine a_getr rfl rfl rfl (fun _ _ _ => rfl) rfl ?_
    refine a_iload_3 rfl rfl ?_
    refine a_iconst (v := (nI 2)) rfl rfl rfl ?_
    refine a_iaddN rfl rfl ?_
    refine a_iald rfl rfl (Or.inl rfl) rfl (by omega) (by decide) ?_
    refine a_as (y := nI (e)) hx2 ?_
    refine a_cmpN_ge rfl rfl rfl (by omega) (by omega) (fun c_48 => False.elim (by omega)) (fun _ => ?_)
    refine a_aload_0 rfl rfl ?_
    refine a_getr rfl rfl rfl (fun _ _ _ => rfl) rfl ?_
    refine a_iload_4 rfl rfl ?_
    refine a_iconst (v := (nI 2)) rfl rfl rfl ?_
    refine a_iload_7 rfl rfl ?_
    refine a_imulN rfl rfl ?_
    refine a_iaddN rfl rfl ?_
    refine a_iald rfl rfl (Or.inl rfl) rfl (by omega) (by decide) ?_
    refine a_as (y := nI (o)) g3 ?_
    refine a_istore_8 rfl rfl rfl ?_
    refine a_aload_0 rfl rfl ?_
    refine a_getr rfl rfl rfl (fun _ _ _ => rfl) rfl ?_
    refine a_iload_4 rfl rfl ?_
    refine a_iconst (v := (nI 2)) rfl rfl rfl ?_
    refine a_iload_7 rfl rfl ?_
    refine a_imulN rfl rfl ?_
    refine a_iaddN rfl rfl ?_
    refine a_iconst (v := (nI 1)) rfl rfl rfl ?_
    refine a_iaddN rfl rfl ?_
    refine a_iald rfl rfl (Or.inl rfl) rfl (by omega) (by decide) ?_
    refine a_as (y := nI (v)) g4 ?_
    refine a_istore_9 rfl rfl rfl ?_
    refine a_iload_8 rfl rfl ?_
    refine a_iconst (v := (nI 1)) rfl rfl rfl ?_
    refine a_cmpN_gt rfl rfl rfl (by omega) (by omega) (fun _ => ?_) (fun c_84 => False.elim (by omega))
    refine a_iload_8 rfl rfl ?_
    refine a_iconst (v := (nI 3)) rfl rfl rfl ?_
    refine a_cmpN_ne rfl rfl rfl (by omega) (by omega) (fun _ => ?_) (fun c_122 => False.elim (by omega))
    refine a_iload_8 rfl rfl ?_
    refine a_iconst (v := (nI 5)) rfl rfl rfl ?_
    refine a_cmpN_eq rfl rfl rfl (by omega) (by omega) (fun c_163 => False.elim (by omega)) (fun _ => ?_)
    refine a_iload_8 rfl rfl ?_
    refine a_iconst (v := (nI 2)) rfl rfl rfl ?_
    refine a_cmpN_ne rfl rfl rfl (by omega) (by omega) (fun _ => ?_) (fun c_169 => False.elim (by omega))
    refine a_iload_8 rfl rfl ?_
    refine a_bipush (v := (nI 10)) rfl rfl rfl ?_
    refine a_cmpN_ge rfl rfl rfl (by omega) (by omega) (fun _ => ?_) (fun c_220 => False.elim (by omega))
    refine a_iload_8 rfl rfl ?_
    refine a_bipush (v := (nI 20)) rfl rfl rfl ?_
    refine a_cmpN_ge rfl rfl rfl (by omega) (by omega) (fun c_291 => False.elim (by omega)) (fun _ => ?_)
    refine a_iinc_5 rfl rfl ((nI_dec (q.length + 2) 2 (by omega)).trans (congrArg nI (by omega)) : nI (q.length + 2) + Int32.ofInt (-((2 : Nat) : Int)) = nI q.length) rfl ?_
    refine a_aload_0 rfl rfl ?_
    refine a_getr rfl rfl rfl (fun _ _ _ => rfl) rfl ?_
    refine a_iload_6 rfl rfl ?_
    refine a_iload_8 rfl rfl ?_
    refine a_aload_0 rfl rfl ?_
    refine a_getr rfl rfl rfl (fun _ _ _ => rfl) rfl ?_
    refine a_iload_5 rfl rfl ?_
    refine a_lald rfl rfl rfl rfl (by omega) (by decide) ?_
    refine a_asL (y := lI (y)) hG.2.2.1 ?_
    refine a_aload_0 rfl rfl ?_
    refine a_getr rfl rfl rfl (fun _ _ _ => rfl) rfl ?_
    refine a_iload_5 rfl rfl ?_
    refine a_iconst (v := (nI 1)) rfl rfl rfl ?_
    refine a_iaddN rfl rfl ?_
    refine a_lald rfl rfl rfl rfl (by omega) (by decide) ?_
    refine a_asL (y := lI (x)) hG.1 ?_
    refine a_statI rfl rfl (r_isAsked o y x c1 hB2 hB) (Nat.le_of_ble_eq_true rfl) ⟨rfl, rfl, rfl⟩ rfl rfl rfl (Nat.le_of_ble_eq_true rfl) rfl ?_
    refine a_bast rfl rfl rfl rfl (by omega) (by decide) (bB_01 _) ?_
    rw [up_put]
    refine a_iinc_6 rfl rfl (nI_inc _ _) rfl ?_
    refine a_goto rfl rfl ?_
    refine a_iinc_7 rfl rfl (nI_inc _ _) rfl ?_
    refine a_goto rfl rfl ?_
    exact Z _ _
  · have l1 : (p :: q).length = q.length + 1 := rfl
    rw [l1] at g6 ⊢
    refine ⟨va_up F q.length (bB (!p)), G, hG, ⟨va_up_self _ _ _, sT_up (Nat.le_refl _) hF.2⟩, fun r y8 y9 Z => ?_⟩
    cases p with
    | true =>
      refine a_iload_7 rfl rfl ?_
      refine a_aload_0 rfl rfl ?_
      refine a_getr rfl rfl rfl (fun _ _ _ => rfl) rfl ?_
      refine a_iload_3 rfl rfl ?_
      refine a_iconst (v := (nI 2)) rfl rfl rfl ?_
      refine a_iaddN rfl rfl ?_
      refine a_iald rfl rfl (Or.inl rfl) rfl (by omega) (by decide) ?_
      refine a_as (y := nI (e)) hx2 ?_
      refine a_cmpN_ge rfl rfl rfl (by omega) (by omega) (fun c_48 => False.elim (by omega)) (fun _ => ?_)
      refine a_aload_0 rfl rfl ?_
      refine a_getr rfl rfl rfl (fun _ _ _ => rfl) rfl ?_
      refine a_iload_4 rfl rfl ?_
      refine a_iconst (v := (nI 2)) rfl rfl rfl ?_
      refine a_iload_7 rfl rfl ?_
      refine a_imulN rfl rfl ?_
      refine a_iaddN rfl rfl ?_
      refine a_iald rfl rfl (Or.inl rfl) rfl (by omega) (by decide) ?_
      refine a_as (y := nI (20)) g3 ?_
      refine a_istore_8 rfl rfl rfl ?_
      refine a_aload_0 rfl rfl ?_
      refine a_getr rfl rfl rfl (fun _ _ _ => rfl) rfl ?_
      refine a_iload_4 rfl rfl ?_
      refine a_iconst (v := (nI 2)) rfl rfl rfl ?_
      refine a_iload_7 rfl rfl ?_
      refine a_imulN rfl rfl ?_
      refine a_iaddN rfl rfl ?_
      refine a_iconst (v := (nI 1)) rfl rfl rfl ?_
      refine a_iaddN rfl rfl ?_
      refine a_iald rfl rfl (Or.inl rfl) rfl (by omega) (by decide) ?_
      refine a_as (y := nI (v)) g4 ?_
      refine a_istore_9 rfl rfl rfl ?_
      refine a_iload_8 rfl rfl ?_
      refine a_iconst (v := (nI 1)) rfl rfl rfl ?_
      refine a_cmpN_gt rfl rfl rfl (by omega) (by omega) (fun _ => ?_) (fun c_84 => False.elim (by omega))
      refine a_iload_8 rfl rfl ?_
      refine a_iconst (v := (nI 3)) rfl rfl rfl ?_
      refine a_cmpN_ne rfl rfl rfl (by omega) (by omega) (fun _ => ?_) (fun c_122 => False.elim (by omega))
      refine a_iload_8 rfl rfl ?_
      refine a_iconst (v := (nI 5)) rfl rfl rfl ?_
      refine a_cmpN_eq rfl rfl rfl (by omega) (by omega) (fun c_163 => False.elim (by omega)) (fun _ => ?_)
      refine a_iload_8 rfl rfl ?_
      refine a_iconst (v := (nI 2)) rfl rfl rfl ?_
      refine a_cmpN_ne rfl rfl rfl (by omega) (by omega) (fun _ => ?_) (fun c_169 => False.elim (by omega))
      refine a_iload_8 rfl rfl ?_
      refine a_bipush (v := (nI 10)) rfl rfl rfl ?_
      refine a_cmpN_ge rfl rfl rfl (by omega) (by omega) (fun _ => ?_) (fun c_220 => False.elim (by omega))
      refine a_iload_8 rfl rfl ?_
      refine a_bipush (v := (nI 20)) rfl rfl rfl ?_
      refine a_cmpN_ge rfl rfl rfl (by omega) (by omega) (fun _ => ?_) (fun c_291 => False.elim (by omega))
      refine a_iload_8 rfl rfl ?_
      refine a_bipush (v := (nI 20)) rfl rfl rfl ?_
      refine a_cmpN_ne rfl rfl rfl (by omega) (by omega) (fun c_335 => False.elim (by omega)) (fun _ => ?_)
      refine a_aload_0 rfl rfl ?_
      refine a_getr rfl rfl rfl (fun _ _ _ => rfl) rfl ?_
      refine a_iload_6 rfl rfl ?_
      refine a_iconst (v := (nI 1)) rfl rfl rfl ?_
      refine a_isubN rfl rfl (by omega) ?_
      refine a_aload_0 rfl rfl ?_
      refine a_getr rfl rfl rfl (fun _ _ _ => rfl) rfl ?_
      refine a_iload_6 rfl rfl ?_
      refine a_iconst (v := (nI 1)) rfl rfl rfl ?_
      refine a_isubN rfl rfl (by omega) ?_
      refine a_bald rfl rfl (Or.inl rfl) rfl (by omega) (by decide) ?_
      refine a_as (y := nI (1)) hF.1 ?_
      refine a_ifN_ne rfl rfl rfl (by omega) (fun _ => ?_) (fun c_355 => False.elim (by omega))
      refine a_iconst (v := (nI 0)) rfl rfl rfl ?_
      refine a_bast rfl rfl rfl rfl (by omega) (by decide) (Or.inl rfl) ?_
      rw [up_put]
      refine a_goto rfl rfl ?_
      refine a_iinc_7 rfl rfl (nI_inc _ _) rfl ?_
      refine a_goto rfl rfl ?_
      exact Z _ _
    | false =>
      refine a_iload_7 rfl rfl ?_
      refine a_aload_0 rfl rfl ?_
      refine a_getr rfl rfl rfl (fun _ _ _ => rfl) rfl ?_
      refine a_iload_3 rfl rfl ?_
      refine a_iconst (v := (nI 2)) rfl rfl rfl ?_
      refine a_iaddN rfl rfl ?_
      refine a_iald rfl rfl (Or.inl rfl) rfl (by omega) (by decide) ?_
      refine a_as (y := nI (e)) hx2 ?_
      refine a_cmpN_ge rfl rfl rfl (by omega) (by omega) (fun c_48 => False.elim (by omega)) (fun _ => ?_)
      refine a_aload_0 rfl rfl ?_
      refine a_getr rfl rfl rfl (fun _ _ _ => rfl) rfl ?_
      refine a_iload_4 rfl rfl ?_
      refine a_iconst (v := (nI 2)) rfl rfl rfl ?_
      refine a_iload_7 rfl rfl ?_
      refine a_imulN rfl rfl ?_
      refine a_iaddN rfl rfl ?_
      refine a_iald rfl rfl (Or.inl rfl) rfl (by omega) (by decide) ?_
      refine a_as (y := nI (20)) g3 ?_
      refine a_istore_8 rfl rfl rfl ?_
      refine a_aload_0 rfl rfl ?_
      refine a_getr rfl rfl rfl (fun _ _ _ => rfl) rfl ?_
      refine a_iload_4 rfl rfl ?_
      refine a_iconst (v := (nI 2)) rfl rfl rfl ?_
      refine a_iload_7 rfl rfl ?_
      refine a_imulN rfl rfl ?_
      refine a_iaddN rfl rfl ?_
      refine a_iconst (v := (nI 1)) rfl rfl rfl ?_
      refine a_iaddN rfl rfl ?_
      refine a_iald rfl rfl (Or.inl rfl) rfl (by omega) (by decide) ?_
      refine a_as (y := nI (v)) g4 ?_
      refine a_istore_9 rfl rfl rfl ?_
      refine a_iload_8 rfl rfl ?_
      refine a_iconst (v := (nI 1)) rfl rfl rfl ?_
      refine a_cmpN_gt rfl rfl rfl (by omega) (by omega) (fun _ => ?_) (fun c_84 => False.elim (by omega))
      refine a_iload_8 rfl rfl ?_
      refine a_iconst (v := (nI 3)) rfl rfl rfl ?_
      refine a_cmpN_ne rfl rfl rfl (by omega) (by omega) (fun _ => ?_) (fun c_122 => False.elim (by omega))
      refine a_iload_8 rfl rfl ?_
      refine a_iconst (v := (nI 5)) rfl rfl rfl ?_
      refine a_cmpN_eq rfl rfl rfl (by omega) (by omega) (fun c_163 => False.elim (by omega)) (fun _ => ?_)
      refine a_iload_8 rfl rfl ?_
      refine a_iconst (v := (nI 2)) rfl rfl rfl ?_
      refine a_cmpN_ne rfl rfl rfl (by omega) (by omega) (fun _ => ?_) (fun c_169 => False.elim (by omega))
      refine a_iload_8 rfl rfl ?_
      refine a_bipush (v := (nI 10)) rfl rfl rfl ?_
      refine a_cmpN_ge rfl rfl rfl (by omega) (by omega) (fun _ => ?_) (fun c_220 => False.elim (by omega))
      refine a_iload_8 rfl rfl ?_
      refine a_bipush (v := (nI 20)) rfl rfl rfl ?_
      refine a_cmpN_ge rfl rfl rfl (by omega) (by omega) (fun _ => ?_) (fun c_291 => False.elim (by omega))
      refine a_iload_8 rfl rfl ?_
      refine a_bipush (v := (nI 20)) rfl rfl rfl ?_
      refine a_cmpN_ne rfl rfl rfl (by omega) (by omega) (fun c_335 => False.elim (by omega)) (fun _ => ?_)
      refine a_aload_0 rfl rfl ?_
      refine a_getr rfl rfl rfl (fun _ _ _ => rfl) rfl ?_
      refine a_iload_6 rfl rfl ?_
      refine a_iconst (v := (nI 1)) rfl rfl rfl ?_
      refine a_isubN rfl rfl (by omega) ?_
      refine a_aload_0 rfl rfl ?_
      refine a_getr rfl rfl rfl (fun _ _ _ => rfl) rfl ?_
      refine a_iload_6 rfl rfl ?_
      refine a_iconst (v := (nI 1)) rfl rfl rfl ?_
      refine a_isubN rfl rfl (by omega) ?_
      refine a_bald rfl rfl (Or.inl rfl) rfl (by omega) (by decide) ?_
      refine a_as (y := nI (0)) hF.1 ?_
      refine a_ifN_ne rfl rfl rfl (by omega) (fun c_355 => False.elim (by omega)) (fun _ => ?_)
      refine a_iconst (v := (nI 1)) rfl rfl rfl ?_
      refine a_goto rfl rfl ?_
      refine a_bast rfl rfl rfl rfl (by omega) (by decide) (Or.inr rfl) ?_
      rw [up_put]
      refine a_goto rfl rfl ?_
      refine a_iinc_7 rfl rfl (nI_inc _ _) rfl ?_
      refine a_goto rfl rfl ?_
      exact Z _ _
  · have l1 : (p :: p2 :: q).length = q.length + 2 := rfl
    rw [l1] at g6 ⊢
    refine ⟨va_up F q.length (bB (if o = 21 then p2 && p else p2 || p)), G, hG, ⟨va_up_self _ _ _, sT_up (Nat.le_refl _) hF.2.2⟩, fun r y8 y9 Z => ?_⟩
    refine a_iload_7 rfl rfl ?_
    refine a_aload_0 rfl rfl ?_
    refine a_getr rfl rfl rfl (fun _ _ _ => rfl) rfl ?_
    refine a_iload_3 rfl rfl ?_
    refine a_iconst (v := (nI 2)) rfl rfl rfl ?_
    refine a_iaddN rfl rfl ?_
    refine a_iald rfl rfl (Or.inl rfl) rfl (by omega) (by decide) ?_
    refine a_as (y := nI (e)) hx2 ?_
    refine a_cmpN_ge rfl rfl rfl (by omega) (by omega) (fun c_48 => False.elim (by omega)) (fun _ => ?_)
    refine a_aload_0 rfl rfl ?_
    refine a_getr rfl rfl rfl (fun _ _ _ => rfl) rfl ?_
    refine a_iload_4 rfl rfl ?_
    refine a_iconst (v := (nI 2)) rfl rfl rfl ?_
    refine a_iload_7 rfl rfl ?_
    refine a_imulN rfl rfl ?_
    refine a_iaddN rfl rfl ?_
    refine a_iald rfl rfl (Or.inl rfl) rfl (by omega) (by decide) ?_
    refine a_as (y := nI (o)) g3 ?_
    refine a_istore_8 rfl rfl rfl ?_
    refine a_aload_0 rfl rfl ?_
    refine a_getr rfl rfl rfl (fun _ _ _ => rfl) rfl ?_
    refine a_iload_4 rfl rfl ?_
    refine a_iconst (v := (nI 2)) rfl rfl rfl ?_
    refine a_iload_7 rfl rfl ?_
    refine a_imulN rfl rfl ?_
    refine a_iaddN rfl rfl ?_
    refine a_iconst (v := (nI 1)) rfl rfl rfl ?_
    refine a_iaddN rfl rfl ?_
    refine a_iald rfl rfl (Or.inl rfl) rfl (by omega) (by decide) ?_
    refine a_as (y := nI (v)) g4 ?_
    refine a_istore_9 rfl rfl rfl ?_
    refine a_iload_8 rfl rfl ?_
    refine a_iconst (v := (nI 1)) rfl rfl rfl ?_
    refine a_cmpN_gt rfl rfl rfl (by omega) (by omega) (fun _ => ?_) (fun c_84 => False.elim (by omega))
    refine a_iload_8 rfl rfl ?_
    refine a_iconst (v := (nI 3)) rfl rfl rfl ?_
    refine a_cmpN_ne rfl rfl rfl (by omega) (by omega) (fun _ => ?_) (fun c_122 => False.elim (by omega))
    refine a_iload_8 rfl rfl ?_
    refine a_iconst (v := (nI 5)) rfl rfl rfl ?_
    refine a_cmpN_eq rfl rfl rfl (by omega) (by omega) (fun c_163 => False.elim (by omega)) (fun _ => ?_)
    refine a_iload_8 rfl rfl ?_
    refine a_iconst (v := (nI 2)) rfl rfl rfl ?_
    refine a_cmpN_ne rfl rfl rfl (by omega) (by omega) (fun _ => ?_) (fun c_169 => False.elim (by omega))
    refine a_iload_8 rfl rfl ?_
    refine a_bipush (v := (nI 10)) rfl rfl rfl ?_
    refine a_cmpN_ge rfl rfl rfl (by omega) (by omega) (fun _ => ?_) (fun c_220 => False.elim (by omega))
    refine a_iload_8 rfl rfl ?_
    refine a_bipush (v := (nI 20)) rfl rfl rfl ?_
    refine a_cmpN_ge rfl rfl rfl (by omega) (by omega) (fun _ => ?_) (fun c_291 => False.elim (by omega))
    refine a_iload_8 rfl rfl ?_
    refine a_bipush (v := (nI 20)) rfl rfl rfl ?_
    refine a_cmpN_ne rfl rfl rfl (by omega) (by omega) (fun _ => ?_) (fun c_335 => False.elim (by omega))
    refine a_iinc_6 rfl rfl ((nI_dec (q.length + 2) 1 (by omega)).trans (congrArg nI (by omega)) : nI (q.length + 2) + Int32.ofInt (-((1 : Nat) : Int)) = nI (q.length + 1)) rfl ?_
    refine a_aload_0 rfl rfl ?_
    refine a_getr rfl rfl rfl (fun _ _ _ => rfl) rfl ?_
    refine a_iload_6 rfl rfl ?_
    refine a_iconst (v := (nI 1)) rfl rfl rfl ?_
    refine a_isubN rfl rfl (by omega) ?_
    refine a_iload_8 rfl rfl ?_
    refine a_aload_0 rfl rfl ?_
    refine a_getr rfl rfl rfl (fun _ _ _ => rfl) rfl ?_
    refine a_iload_6 rfl rfl ?_
    refine a_iconst (v := (nI 1)) rfl rfl rfl ?_
    refine a_isubN rfl rfl (by omega) ?_
    refine a_bald rfl rfl (Or.inl rfl) rfl (by omega) (by decide) ?_
    refine a_as (y := bB p2) hF.2.1 ?_
    refine a_aload_0 rfl rfl ?_
    refine a_getr rfl rfl rfl (fun _ _ _ => rfl) rfl ?_
    refine a_iload_6 rfl rfl ?_
    refine a_bald rfl rfl (Or.inl rfl) rfl (by omega) (by decide) ?_
    refine a_as (y := bB p) hF.1 ?_
    refine a_statI rfl rfl (r_joined o p2 p c1) (Nat.le_of_ble_eq_true rfl) ⟨rfl, rfl, rfl⟩ rfl rfl rfl (Nat.le_of_ble_eq_true rfl) rfl ?_
    refine a_bast rfl rfl rfl rfl (by omega) (by decide) (bB_01 _) ?_
    rw [up_put]
    refine a_iinc_7 rfl rfl (nI_inc _ _) rfl ?_
    refine a_goto rfl rfl ?_
    exact Z _ _
theorem k2_run (text cl e : Nat) (ht4 : text < 4) (hcl : cl < 24) (he : e ≤ 303) (law : Nat) (E : E1) (hE : eOK E) (LT : Nat → Nat) (hN : ∀ j, nmOk law j = true → h 87 j = iI (E.1 j)) (hL : law ≠ 0 → (∀ c, c < 30 → h 88 c = nI (LT c) ∧ LT c ≤ 15) ∧ ∀ v, (-1000000 ≤ v ∧ v ≤ 1000000) → E.2 v = ltOf LT v) (hx2 : h 84 (681 * text + 1 + 3 * cl + 2) = nI e) (n : Nat) : ∀ (a b : V2) (F : Nat → Int32) (G : Nat → Int64), Run2 law (h 84) (681 * text + 73) E e n a b → sV a.2.1 G → sT a.2.2 F → ∃ F' G', sV b.2.1 G' ∧ ∀ (r : Option Value × mvSt) y8 y9, (∀ y8 y9, avA 2 260 38 [.ref 81, .int (nI text), .int (nI cl), .int (nI (681 * text + 1 + 3 * cl)), .int (nI (681 * text + 73)), .int (nI b.2.1.length), .int (nI b.2.2.length), .int (nI b.1), y8, y9] [] (sX L t lt rt rp sw (va_up h 90 F') (va_up gl 89 G')) r) → avA 2 260 38 [.ref 81, .int (nI text), .int (nI cl), .int (nI (681 * text + 1 + 3 * cl)), .int (nI (681 * text + 73)), .int (nI a.2.1.length), .int (nI a.2.2.length), .int (nI a.1), y8, y9] [] (sX L t lt rt rp sw (va_up h 90 F) (va_up gl 89 G)) r := by
  induction n with
  | zero =>
    intro a b F G hr hG hF
    have e : a = b := hr
    subst e
    exact ⟨F, G, hG, fun r y8 y9 Z => Z _ _⟩
  | succ n ih =>
    intro a b F G hr hG hF
    obtain ⟨hi, c, hS, hr'⟩ := hr
    obtain ⟨F1, G1, s1, s2, K⟩ := k2_s (L := L) (t := t) (lt := lt) (rt := rt) (rp := rp) (sw := sw) (gl := gl) text cl e ht4 hcl he law E hE LT hN hL hx2 a.1 a.2.1 a.2.2 c F G hi hS hG hF
    obtain ⟨F2, G2, s3, K2⟩ := ih c b F1 G1 hr' s1 s2
    exact ⟨F2, G2, s3, fun r y8 y9 Z => K r y8 y9 (fun y8 y9 => K2 r y8 y9 Z)⟩
/-- what the reference holds of a law in its texts -/
def lawR (T : Nat → Int32) (text s : Nat) (fo : Option (E1 → Int)) : Prop := ∃ n, n ≤ 24 ∧ T (681 * text) = nI n ∧ match fo with
  | none => ∀ k, k < n → T (681 * text + 1 + 3 * k) ≠ nI s
  | some f => fB f ∧ ∃ k st en, k < n ∧ T (681 * text + 1 + 3 * k) = nI s ∧ (∀ k', k' < k → T (681 * text + 1 + 3 * k') ≠ nI s) ∧ T (681 * text + 1 + 3 * k + 1) = nI st ∧ T (681 * text + 1 + 3 * k + 2) = nI en ∧ st ≤ en ∧ en ≤ 303 ∧ Sg2 s f T (681 * text + 73) st en 319
theorem r_summedUp (text cl st e : Nat) (ht4 : text < 4) (hcl : cl < 24) (hst : st ≤ e) (he : e ≤ 303) (law : Nat) (f : E1 → Int) (hS : Sg2 law f (h 84) (681 * text + 73) st e 319) (E : E1) (hE : eOK E) (LT : Nat → Nat) (hN : ∀ j, nmOk law j = true → h 87 j = iI (E.1 j)) (hL : law ≠ 0 → (∀ c, c < 30 → h 88 c = nI (LT c) ∧ LT c ≤ 15) ∧ ∀ v, (-1000000 ≤ v ∧ v ≤ 1000000) → E.2 v = ltOf LT v) (hx1 : h 84 (681 * text + 1 + 3 * cl + 1) = nI st) (hx2 : h 84 (681 * text + 1 + 3 * cl + 2) = nI e) : ∃ F G, avE 2 260 [.ref 81, .int (nI text), .int (nI cl)] (sX L t lt rt rp sw h gl) (some (.long (lI (f E))), sX L t lt rt rp sw (va_up h 90 F) (va_up gl 89 G)) := by
  obtain ⟨n, Rn⟩ := hS E hE [] [] (Nat.le_refl _) (Nat.le_refl _)
  obtain ⟨F, G, s1, K⟩ := k2_run (L := L) (t := t) (lt := lt) (rt := rt) (rp := rp) (sw := sw) (gl := gl) text cl e ht4 hcl he law E hE LT hN hL hx2 n _ _ (h 90) (gl 89) Rn trivial trivial
  rw [up_id, up_id] at K
  refine ⟨F, G, ?_⟩
  have Z : ∀ y8 y9, avA 2 260 38 [.ref 81, .int (nI text), .int (nI cl), .int (nI (681 * text + 1 + 3 * cl)), .int (nI (681 * text + 73)), .int (nI 1), .int (nI 0), .int (nI e), y8, y9] [] (sX L t lt rt rp sw (va_up h 90 F) (va_up gl 89 G)) (some (.long (lI (f E))), sX L t lt rt rp sw (va_up h 90 F) (va_up gl 89 G)) := by
    intro y8 y9
    refine a_iload_7 rfl rfl ?_
    refine a_aload_0 rfl rfl ?_
    refine a_getr rfl rfl rfl (fun _ _ _ => rfl) rfl ?_
    refine a_iload_3 rfl rfl ?_
    refine a_iconst (v := (nI 2)) rfl rfl rfl ?_
    refine a_iaddN rfl rfl ?_
    refine a_iald rfl rfl (Or.inl rfl) rfl (by omega) (by decide) ?_
    refine a_as (y := nI (e)) hx2 ?_
    refine a_cmpN_ge rfl rfl rfl (by omega) (by omega) (fun _ => ?_) (fun c_48 => False.elim (by omega))
    refine a_aload_0 rfl rfl ?_
    refine a_getr rfl rfl rfl (fun _ _ _ => rfl) rfl ?_
    refine a_iconst (v := (nI 0)) rfl rfl rfl ?_
    refine a_lald rfl rfl rfl rfl (by omega) (by decide) ?_
    refine a_asL (y := lI (f E)) s1.1 ?_
    exact a_lret rfl rfl
  show avA _ 260 0 [.ref 81, .int (nI (text)), .int (nI (cl)), mvU, mvU, mvU, mvU, mvU, mvU, mvU] [] _ _
  refine a_sipush (v := (nI 681)) rfl rfl rfl ?_
  refine a_iload_1 rfl rfl ?_
  refine a_imulN rfl rfl ?_
  refine a_iconst (v := (nI 1)) rfl rfl rfl ?_
  refine a_iaddN rfl rfl ?_
  refine a_iconst (v := (nI 3)) rfl rfl rfl ?_
  refine a_iload_2 rfl rfl ?_
  refine a_imulN rfl rfl ?_
  refine a_iaddN rfl rfl ?_
  refine a_istore_3 rfl rfl rfl ?_
  refine a_sipush (v := (nI 681)) rfl rfl rfl ?_
  refine a_iload_1 rfl rfl ?_
  refine a_imulN rfl rfl ?_
  refine a_bipush (v := (nI 73)) rfl rfl rfl ?_
  refine a_iaddN rfl rfl ?_
  refine a_istore_4 rfl rfl rfl ?_
  refine a_iconst (v := (nI 0)) rfl rfl rfl ?_
  refine a_istore_5 rfl rfl rfl ?_
  refine a_iconst (v := (nI 0)) rfl rfl rfl ?_
  refine a_istore_6 rfl rfl rfl ?_
  refine a_aload_0 rfl rfl ?_
  refine a_getr rfl rfl rfl (fun _ _ _ => rfl) rfl ?_
  refine a_iload_3 rfl rfl ?_
  refine a_iconst (v := (nI 1)) rfl rfl rfl ?_
  refine a_iaddN rfl rfl ?_
  refine a_iald rfl rfl (Or.inl rfl) rfl (by omega) (by decide) ?_
  refine a_as (y := nI (st)) hx1 ?_
  refine a_istore_7 rfl rfl rfl ?_
  exact K _ _ _ Z
/-- which laws rule: none, or a text's -/
def txR (T : Nat → Int32) (tx : Int32) (s : Nat) (fo : Option (E1 → Int)) : Prop := (tx = -1 ∧ fo = none) ∨ ∃ text, text < 4 ∧ tx = nI text ∧ lawR T text s fo
def syV (fo : Option (E1 → Int)) (E : E1) (w : Int) (m : Nat) : Nat := match fo with
  | none => clN w m
  | some f => clN (f E) m
theorem l_says (text s m n : Nat) (w : Int) (ht4 : text < 4) (hs : s < 64) (hn : n ≤ 24) (h0 : h 84 (681 * text) = nI n) (r : Option Value × mvSt) (k : Nat) (hk : k ≤ n) (hne : ∀ k', k' < k → h 84 (681 * text + 1 + 3 * k') ≠ nI s) (j : Nat) : ∀ i, i + j = k → avA 3 259 3 [.ref 81, .int (nI text), .int (nI s), .int (iI w), .int (nI m), .int (nI k)] [] (sX L t lt rt rp sw h gl) r → avA 3 259 3 [.ref 81, .int (nI text), .int (nI s), .int (iI w), .int (nI m), .int (nI i)] [] (sX L t lt rt rp sw h gl) r := by
  induction j with
  | zero =>
    intro i hi Z
    have e : i = k := by omega
    subst e
    exact Z
  | succ j ih =>
    intro i hi Z
    refine ?_
    refine a_iload_1 rfl rfl ?_
    refine a_ifN_lt rfl rfl rfl (by omega) (fun c_4 => False.elim (c_4)) (fun _ => ?_)
    refine a_iload_5 rfl rfl ?_
    refine a_aload_0 rfl rfl ?_
    refine a_getr rfl rfl rfl (fun _ _ _ => rfl) rfl ?_
    refine a_sipush (v := (nI 681)) rfl rfl rfl ?_
    refine a_iload_1 rfl rfl ?_
    refine a_imulN rfl rfl ?_
    refine a_iald rfl rfl (Or.inl rfl) rfl (by omega) (by decide) ?_
    refine a_as (y := nI (n)) h0 ?_
    refine a_cmpN_ge rfl rfl rfl (by omega) (by omega) (fun c_19 => False.elim (by omega)) (fun _ => ?_)
    refine a_aload_0 rfl rfl ?_
    refine a_getr rfl rfl rfl (fun _ _ _ => rfl) rfl ?_
    refine a_sipush (v := (nI 681)) rfl rfl rfl ?_
    refine a_iload_1 rfl rfl ?_
    refine a_imulN rfl rfl ?_
    refine a_iconst (v := (nI 1)) rfl rfl rfl ?_
    refine a_iaddN rfl rfl ?_
    refine a_iconst (v := (nI 3)) rfl rfl rfl ?_
    refine a_iload_5 rfl rfl ?_
    refine a_imulN rfl rfl ?_
    refine a_iaddN rfl rfl ?_
    refine a_iald rfl rfl (Or.inl rfl) rfl (by omega) (by decide) ?_
    refine a_iload_2 rfl rfl ?_
    refine a_cmp_ne rfl rfl rfl (fun _ => ?_) (fun c_40 => by first | exact absurd (hne i (by omega)) c_40 | exact absurd c_40 (hne i (by omega)))
    refine a_iinc_5 rfl rfl (nI_inc _ _) rfl ?_
    refine a_goto rfl rfl ?_
    exact ih (i + 1) (by omega) Z
theorem r_says (tx : Int32) (s m : Nat) (w : Int) (fo : Option (E1 → Int)) (hs : s < 3) (hm : m ≤ 100000) (hw : -1000000 ≤ w ∧ w ≤ 1000000) (H : txR (h 84) tx s fo) (E : E1) (hE : eOK E) (LT : Nat → Nat) (hN : ∀ j, nmOk s j = true → h 87 j = iI (E.1 j)) (hL : s ≠ 0 → (∀ c, c < 30 → h 88 c = nI (LT c) ∧ LT c ≤ 15) ∧ ∀ v, (-1000000 ≤ v ∧ v ≤ 1000000) → E.2 v = ltOf LT v) : ∃ F G, avE 3 259 [.ref 81, .int tx, .int (nI s), .int (iI w), .int (nI m)] (sX L t lt rt rp sw h gl) (some (.int (nI (syV fo E w m))), sX L t lt rt rp sw (va_up h 90 F) (va_up gl 89 G)) := by
  rcases H with ⟨rfl, rfl⟩ | ⟨text, ht4, rfl, n, hn, h0, H⟩
  · refine ⟨h 90, gl 89, ?_⟩
    rw [up_id, up_id]
    show avA _ 259 0 [.ref 81, .int (-1), .int (nI (s)), .int (iI (w)), .int (nI (m)), mvU] [] _ _
    refine a_iconst (v := (nI 0)) rfl rfl rfl ?_
    refine a_istore_5 rfl rfl rfl ?_
    refine a_iload_1 rfl rfl ?_
    refine a_ifI_lt rfl rfl rfl rfl (fun _ => ?_) (fun c_4 => False.elim (c_4 (by decide)))
    refine a_iload_3 rfl rfl ?_
    refine a_i2lZ rfl rfl (by omega) ?_
    refine a_iconst (v := (nI 0)) rfl rfl rfl ?_
    refine a_iload_4 rfl rfl ?_
    refine a_statI rfl rfl (r_cut w m hw hm) (Nat.le_of_ble_eq_true rfl) ⟨rfl, rfl, rfl⟩ rfl rfl rfl (Nat.le_of_ble_eq_true rfl) rfl ?_
    exact a_iret rfl rfl
  · cases fo with
    | none =>
      refine ⟨h 90, gl 89, ?_⟩
      rw [up_id, up_id]
      show avA _ 259 0 [.ref 81, .int (nI (text)), .int (nI (s)), .int (iI (w)), .int (nI (m)), mvU] [] _ _
      refine a_iconst (v := (nI 0)) rfl rfl rfl ?_
      refine a_istore_5 rfl rfl rfl ?_
      refine l_says text s m n w ht4 (by omega) hn h0 _ n (Nat.le_refl _) H n 0 (by omega) ?_
      refine a_iload_1 rfl rfl ?_
      refine a_ifN_lt rfl rfl rfl (by omega) (fun c_4 => False.elim (c_4)) (fun _ => ?_)
      refine a_iload_5 rfl rfl ?_
      refine a_aload_0 rfl rfl ?_
      refine a_getr rfl rfl rfl (fun _ _ _ => rfl) rfl ?_
      refine a_sipush (v := (nI 681)) rfl rfl rfl ?_
      refine a_iload_1 rfl rfl ?_
      refine a_imulN rfl rfl ?_
      refine a_iald rfl rfl (Or.inl rfl) rfl (by omega) (by decide) ?_
      refine a_as (y := nI (n)) h0 ?_
      refine a_cmpN_ge rfl rfl rfl (by omega) (by omega) (fun _ => ?_) (fun c_19 => False.elim (by omega))
      refine a_iload_3 rfl rfl ?_
      refine a_i2lZ rfl rfl (by omega) ?_
      refine a_iconst (v := (nI 0)) rfl rfl rfl ?_
      refine a_iload_4 rfl rfl ?_
      refine a_statI rfl rfl (r_cut w m hw hm) (Nat.le_of_ble_eq_true rfl) ⟨rfl, rfl, rfl⟩ rfl rfl rfl (Nat.le_of_ble_eq_true rfl) rfl ?_
      exact a_iret rfl rfl
    | some f =>
      obtain ⟨hf, k, st, en, k1, k2, k3, k4, k5, k6, k7, S⟩ := H
      obtain ⟨F, G, C⟩ := r_summedUp (L := L) (t := t) (lt := lt) (rt := rt) (rp := rp) (sw := sw) (gl := gl) text k st en ht4 (by omega) k6 k7 s f S E hE LT hN hL k4 k5
      have fb := hf E hE
      refine ⟨F, G, ?_⟩
      show avA _ 259 0 [.ref 81, .int (nI (text)), .int (nI (s)), .int (iI (w)), .int (nI (m)), mvU] [] _ _
      refine a_iconst (v := (nI 0)) rfl rfl rfl ?_
      refine a_istore_5 rfl rfl rfl ?_
      refine l_says text s m n w ht4 (by omega) hn h0 _ k (by omega) k3 k 0 (by omega) ?_
      refine a_iload_1 rfl rfl ?_
      refine a_ifN_lt rfl rfl rfl (by omega) (fun c_4 => False.elim (c_4)) (fun _ => ?_)
      refine a_iload_5 rfl rfl ?_
      refine a_aload_0 rfl rfl ?_
      refine a_getr rfl rfl rfl (fun _ _ _ => rfl) rfl ?_
      refine a_sipush (v := (nI 681)) rfl rfl rfl ?_
      refine a_iload_1 rfl rfl ?_
      refine a_imulN rfl rfl ?_
      refine a_iald rfl rfl (Or.inl rfl) rfl (by omega) (by decide) ?_
      refine a_as (y := nI (n)) h0 ?_
      refine a_cmpN_ge rfl rfl rfl (by omega) (by omega) (fun c_19 => False.elim (by omega)) (fun _ => ?_)
      refine a_aload_0 rfl rfl ?_
      refine a_getr rfl rfl rfl (fun _ _ _ => rfl) rfl ?_
      refine a_sipush (v := (nI 681)) rfl rfl rfl ?_
      refine a_iload_1 rfl rfl ?_
      refine a_imulN rfl rfl ?_
      refine a_iconst (v := (nI 1)) rfl rfl rfl ?_
      refine a_iaddN rfl rfl ?_
      refine a_iconst (v := (nI 3)) rfl rfl rfl ?_
      refine a_iload_5 rfl rfl ?_
      refine a_imulN rfl rfl ?_
      refine a_iaddN rfl rfl ?_
      refine a_iald rfl rfl (Or.inl rfl) rfl (by omega) (by decide) ?_
      refine a_as (y := nI (s)) k2 ?_
      refine a_iload_2 rfl rfl ?_
      refine a_cmpN_ne rfl rfl rfl (by omega) (by omega) (fun c_40 => False.elim (by omega)) (fun _ => ?_)
      refine a_aload_0 rfl rfl ?_
      refine a_iload_1 rfl rfl ?_
      refine a_iload_5 rfl rfl ?_
      refine a_virtL rfl rfl (C) (Nat.le_of_ble_eq_true rfl) ⟨rfl, rfl, rfl, rfl⟩ rfl rfl rfl (Nat.le_of_ble_eq_true rfl) rfl rfl ?_
      refine a_iconst (v := (nI 0)) rfl rfl rfl ?_
      refine a_iload_4 rfl rfl ?_
      refine a_statI rfl rfl (r_cut (f E) m fb hm) (Nat.le_of_ble_eq_true rfl) ⟨rfl, rfl, rfl⟩ rfl rfl rfl (Nat.le_of_ble_eq_true rfl) rfl ?_
      exact a_iret rfl rfl
end SU
