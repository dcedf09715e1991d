/-! STEPS KEPT: remember and keep -/
theorem cpy_in {α : Type} {f g : Nat → α} {sp dp n j : Nat} (h : j < n) : va_cpy f g sp dp n (dp + j) = f (sp + j) := by
  unfold va_cpy
  rw [if_pos (by omega), show dp + j - dp = j by omega]
theorem cpy_out {α : Type} {f g : Nat → α} {sp dp n k : Nat} (h : k < dp ∨ dp + n ≤ k) : va_cpy f g sp dp n k = g k := by
  unfold va_cpy
  rw [if_neg (by omega)]
/-- a packed moment at q, and a step at x -/
def SR (P : Nat → Int32) (q : Nat) (A : Nat → Int32) (x : Nat) : Prop := P q = A (x + 2) ∧ P (q + 1) = A (x + 3) ∧ P (q + 2) = A (x + 1) ∧ P (q + 3) = A (x + 4) ∧ P (q + 4) = A x ∧ (∀ b, b < gN A x → P (q + 7 + b) = A (x + 6 + 3 * b) ∧ P (q + 12 + b) = A (x + 7 + 3 * b) ∧ P (q + 17 + b) = A (x + 8 + 3 * b)) ∧ ∃ bf bc : Nat, bf < 30 ∧ bc ≤ 30 ∧ P (q + 5) = nI bf ∧ P (q + 6) = nI bc ∧ gN A (x + 5) = bc ∧ ∀ i, i < bc → P (q + 22 + (bf + i) % 30) = A (x + 21 + i)
theorem SR_ext {P P' : Nat → Int32} {q x x' : Nat} {A A' : Nat → Int32} (hn : gN A x ≤ 5) (eP : ∀ j, j < 52 → P' (q + j) = P (q + j)) (eA : ∀ j, j < 51 → A' (x' + j) = A (x + j)) (H : SR P q A x) : SR P' q A' x' := by
  obtain ⟨a0, a1, a2, a3, a4, ab, bf, bc, b1, b2, b3, b4, b5, b6⟩ := H
  have e0 : A' x' = A x := eA 0 (by omega)
  have g0 : gN A' x' = gN A x := by unfold gN; rw [e0]
  refine ⟨?_, ?_, ?_, ?_, ?_, fun b hb => ⟨?_, ?_, ?_⟩, bf, bc, b1, b2, ?_, ?_, ?_, fun i hi => ?_⟩
  · rw [show P' q = P q from eP 0 (by omega), eA 2 (by omega)]; exact a0
  · rw [eP 1 (by omega), eA 3 (by omega)]; exact a1
  · rw [eP 2 (by omega), eA 1 (by omega)]; exact a2
  · rw [eP 3 (by omega), eA 4 (by omega)]; exact a3
  · rw [eP 4 (by omega), e0]; exact a4
  · have q1 := eP (7 + b) (by omega)
    have q2 := eA (6 + 3 * b) (by omega)
    simp only [← Nat.add_assoc] at q1 q2
    rw [q1, q2]; exact (ab b (by omega)).1
  · have q1 := eP (12 + b) (by omega)
    have q2 := eA (7 + 3 * b) (by omega)
    simp only [← Nat.add_assoc] at q1 q2
    rw [q1, q2]; exact (ab b (by omega)).2.1
  · have q1 := eP (17 + b) (by omega)
    have q2 := eA (8 + 3 * b) (by omega)
    simp only [← Nat.add_assoc] at q1 q2
    rw [q1, q2]; exact (ab b (by omega)).2.2
  · rw [eP 5 (by omega)]; exact b3
  · rw [eP 6 (by omega)]; exact b4
  · unfold gN; rw [eA 5 (by omega)]; exact b5
  · have q1 := eP (22 + (bf + i) % 30) (by omega)
    have q2 := eA (21 + i) (by omega)
    simp only [← Nat.add_assoc] at q1 q2
    rw [q1, q2]; exact b6 i hi
def PR (o : Nat) (A : Nat → Int32) (h : Nat → Nat → Int32) : Prop := ∃ pf pc : Nat, pf < 30 ∧ pc ≤ 30 ∧ h o 4 = nI pf ∧ h o 5 = nI pc ∧ gN A 3 = pc ∧ ∀ k, k < pc → SR (h (o + 8)) ((pf + k) % 30 * 52) A (166 + 51 * k)
def stp (A : Nat → Int32) (j : Nat) : Int32 := if j = 0 then A 0 else if j < 6 then A (7 + j) else if j < 21 then A (13 + 5 * ((j - 6) / 3) + (j - 6) % 3) else A (1696 + (j - 21))
def kpA (A : Nat → Int32) : Nat → Int32 := if gN A 3 = 30 then va_up (rw2 1645 51 (stp A) (rw2 166 1479 (fun j => A (217 + j)) A)) 3 (nI 30) else va_up (rw2 (166 + 51 * gN A 3) 51 (stp A) A) 3 (nI (gN A 3 + 1))
theorem stp_B {A : Nat → Int32} (H : rOK A) {j : Nat} (hj : j < 51) : (stB j).1 ≤ (stp A j).toInt ∧ (stp A j).toInt ≤ (stB j).2 := by
  have key : ∀ i, i < 1726 → bnd i = stB j → (stB j).1 ≤ (A i).toInt ∧ (A i).toInt ≤ (stB j).2 := fun i hi e => by
    have := H i hi
    unfold inB at this
    rw [e] at this
    exact this
  unfold stp
  by_cases c0 : j = 0
  · rw [if_pos c0]; subst c0; exact key 0 (by omega) rfl
  · rw [if_neg c0]
    by_cases c1 : j < 6
    · rw [if_pos c1]
      match j, c0, c1 with
      | 1, _, _ => exact key 8 (by omega) rfl
      | 2, _, _ => exact key 9 (by omega) rfl
      | 3, _, _ => exact key 10 (by omega) rfl
      | 4, _, _ => exact key 11 (by omega) rfl
      | 5, _, _ => exact key 12 (by omega) rfl
    · rw [if_neg c1]
      by_cases c2 : j < 21
      · rw [if_pos c2]
        match j, c1, c2 with
        | 6, _, _ => exact key _ (by decide) rfl
        | 7, _, _ => exact key _ (by decide) rfl
        | 8, _, _ => exact key _ (by decide) rfl
        | 9, _, _ => exact key _ (by decide) rfl
        | 10, _, _ => exact key _ (by decide) rfl
        | 11, _, _ => exact key _ (by decide) rfl
        | 12, _, _ => exact key _ (by decide) rfl
        | 13, _, _ => exact key _ (by decide) rfl
        | 14, _, _ => exact key _ (by decide) rfl
        | 15, _, _ => exact key _ (by decide) rfl
        | 16, _, _ => exact key _ (by decide) rfl
        | 17, _, _ => exact key _ (by decide) rfl
        | 18, _, _ => exact key _ (by decide) rfl
        | 19, _, _ => exact key _ (by decide) rfl
        | 20, _, _ => exact key _ (by decide) rfl
        | n + 21, _, h => exact absurd h (by omega)
      · rw [if_neg c2]
        refine key _ (by omega) ?_
        rw [bd_book]
        unfold stB
        rw [if_neg (by omega), if_neg (by omega), if_neg (by omega), if_neg (by omega), if_neg (by omega), if_neg (by omega), if_neg c2]
theorem kpA_lo {A : Nat → Int32} {i : Nat} (hi : i < 166 ∨ 1696 ≤ i) (h3 : i ≠ 3) (hn : gN A 3 ≤ 30) : kpA A i = A i := by
  unfold kpA
  split
  · rw [va_up_ne _ _ h3, rw2_out (by omega), rw2_out (by omega)]
  · rw [va_up_ne _ _ h3, rw2_out (by omega)]
theorem kpA_3 {A : Nat → Int32} : kpA A 3 = nI (if gN A 3 = 30 then 30 else gN A 3 + 1) := by
  unfold kpA
  split
  · rw [va_up_self]
  · rw [va_up_self]
theorem kpA_old {A : Nat → Int32} {k j : Nat} (hn : gN A 3 ≤ 30) (hk : k < gN A 3) (hk2 : gN A 3 = 30 → k < 29) (hj : j < 51) : kpA A (166 + 51 * k + j) = A (166 + 51 * (if gN A 3 = 30 then k + 1 else k) + j) := by
  unfold kpA
  split
  · rename_i c
    have := hk2 c
    rw [va_up_ne _ _ (by omega), rw2_out (by omega), show 166 + 51 * k + j = 166 + (51 * k + j) by omega, rw2_in (by omega)]
    congr 1
    omega
  · rename_i c
    rw [va_up_ne _ _ (by omega), rw2_out (by omega)]
theorem kpA_new {A : Nat → Int32} {j : Nat} (hn : gN A 3 ≤ 30) (hj : j < 51) : kpA A (166 + 51 * (if gN A 3 = 30 then 29 else gN A 3) + j) = stp A j := by
  unfold kpA
  split
  · rw [va_up_ne _ _ (by omega), show 166 + 51 * 29 + j = 1645 + j by omega, rw2_in hj]
  · rw [va_up_ne _ _ (by omega), rw2_in hj]
theorem kpA_OK {A : Nat → Int32} (H : rOK A) : rOK (kpA A) := by
  have hn := gN_le (m := 30) H (i := 3) (by omega) (by decide)
  intro i hi
  by_cases c3 : i = 3
  · subst c3
    rw [kpA_3]
    exact inB_nI (m := 30) rfl (by split <;> omega) (by omega)
  by_cases c : i < 166 ∨ 1696 ≤ i
  · rw [kpA_lo c c3 hn]
    exact H i hi
  · obtain ⟨k, j, hk, hj, rfl⟩ : ∃ k j, k < 30 ∧ j < 51 ∧ i = 166 + 51 * k + j := ⟨(i - 166) / 51, (i - 166) % 51, by omega, by omega, by omega⟩
    have hb := bd_step hk hj
    have key : ∀ v : Int32, ((stB j).1 ≤ v.toInt ∧ v.toInt ≤ (stB j).2) → inB (166 + 51 * k + j) v := fun v hv => by unfold inB; rw [hb]; exact hv
    have old : ∀ k', k' < 30 → (stB j).1 ≤ (A (166 + 51 * k' + j)).toInt ∧ (A (166 + 51 * k' + j)).toInt ≤ (stB j).2 := fun k' hk' => by
      have := H (166 + 51 * k' + j) (by omega)
      unfold inB at this
      rw [bd_step hk' hj] at this
      exact this
    refine key _ ?_
    by_cases e : k = (if gN A 3 = 30 then 29 else gN A 3)
    · rw [e, kpA_new hn hj]
      exact stp_B H hj
    · by_cases q : k < gN A 3
      · rw [kpA_old hn q (fun q30 => by rw [if_pos q30] at e; omega) hj]
        split at e
        · rename_i c30; rw [if_pos c30]; exact old _ (by omega)
        · rename_i c30; rw [if_neg c30]; exact old _ hk
      · have c30 : ¬ gN A 3 = 30 := fun c30 => by omega
        rw [if_neg c30] at e
        unfold kpA
        rw [if_neg c30, va_up_ne _ _ (by omega), rw2_out (by omega)]
        exact old k hk
theorem pk_row (P at_ md kd ks : Nat → Int32) (s : Nat) (v0 v1 v2 v3 v4 v5 v6 : Int32) (P' : Nat → Int32) (hP : P' = va_cpy ks (va_cpy kd (va_cpy md (va_cpy at_ (va_up (va_up (va_up (va_up (va_up (va_up (va_up P s v0) (s + 1) v1) (s + 2) v2) (s + 3) v3) (s + 4) v4) (s + 5) v5) (s + 6) v6) 0 (s + 7) 5) 0 (s + 7 + 5) 5) 0 (s + 7 + 10) 5) 0 (s + 7 + 15) 30) : P' s = v0 ∧ P' (s + 1) = v1 ∧ P' (s + 2) = v2 ∧ P' (s + 3) = v3 ∧ P' (s + 4) = v4 ∧ P' (s + 5) = v5 ∧ P' (s + 6) = v6 ∧ (∀ b, b < 5 → P' (s + 7 + b) = at_ b ∧ P' (s + 12 + b) = md b ∧ P' (s + 17 + b) = kd b) ∧ (∀ i, i < 30 → P' (s + 22 + i) = ks i) ∧ ∀ j, (j < s ∨ s + 52 ≤ j) → P' j = P j := by
  subst hP
  refine ⟨?_, ?_, ?_, ?_, ?_, ?_, ?_, fun b hb => ⟨?_, ?_, ?_⟩, fun i hi => ?_, fun j hj => ?_⟩
  · rw [cpy_out (by omega), cpy_out (by omega), cpy_out (by omega), cpy_out (by omega), va_up_ne _ _ (by omega), va_up_ne _ _ (by omega), va_up_ne _ _ (by omega), va_up_ne _ _ (by omega), va_up_ne _ _ (by omega), va_up_ne _ _ (by omega), va_up_self]
  · rw [cpy_out (by omega), cpy_out (by omega), cpy_out (by omega), cpy_out (by omega), va_up_ne _ _ (by omega), va_up_ne _ _ (by omega), va_up_ne _ _ (by omega), va_up_ne _ _ (by omega), va_up_ne _ _ (by omega), va_up_self]
  · rw [cpy_out (by omega), cpy_out (by omega), cpy_out (by omega), cpy_out (by omega), va_up_ne _ _ (by omega), va_up_ne _ _ (by omega), va_up_ne _ _ (by omega), va_up_ne _ _ (by omega), va_up_self]
  · rw [cpy_out (by omega), cpy_out (by omega), cpy_out (by omega), cpy_out (by omega), va_up_ne _ _ (by omega), va_up_ne _ _ (by omega), va_up_ne _ _ (by omega), va_up_self]
  · rw [cpy_out (by omega), cpy_out (by omega), cpy_out (by omega), cpy_out (by omega), va_up_ne _ _ (by omega), va_up_ne _ _ (by omega), va_up_self]
  · rw [cpy_out (by omega), cpy_out (by omega), cpy_out (by omega), cpy_out (by omega), va_up_ne _ _ (by omega), va_up_self]
  · rw [cpy_out (by omega), cpy_out (by omega), cpy_out (by omega), cpy_out (by omega), va_up_self]
  · rw [cpy_out (by omega), cpy_out (by omega), cpy_out (by omega), cpy_in hb, Nat.zero_add]
  · rw [cpy_out (by omega), cpy_out (by omega), show s + 12 + b = s + 7 + 5 + b by omega, cpy_in hb, Nat.zero_add]
  · rw [cpy_out (by omega), show s + 17 + b = s + 7 + 10 + b by omega, cpy_in hb, Nat.zero_add]
  · rw [show s + 22 + i = s + 7 + 15 + i by omega, cpy_in hi, Nat.zero_add]
  · rw [cpy_out (by omega), cpy_out (by omega), cpy_out (by omega), cpy_out (by omega), va_up_ne _ _ (by omega), va_up_ne _ _ (by omega), va_up_ne _ _ (by omega), va_up_ne _ _ (by omega), va_up_ne _ _ (by omega), va_up_ne _ _ (by omega), va_up_ne _ _ (by omega)]
section KE
variable {L t : Nat} {lt rt rp : Option Nat} {sw : Bool} {h : Nat → Nat → Int32} {gl : Nat → Nat → Int64}
theorem e_pack (s : Nat) (hs : s + 52 ≤ 1560) : ∃ h', avE 0 87 [.ref 14, .ref 19, .int (nI s)] (sX L t lt rt rp sw h gl) (none, sX L t lt rt rp sw h' gl) ∧ CF [19] h h' ∧ h' 19 s = h 14 0 ∧ h' 19 (s + 1) = h 14 1 ∧ h' 19 (s + 2) = h 14 2 ∧ h' 19 (s + 3) = h 14 3 ∧ h' 19 (s + 4) = h 14 4 ∧ h' 19 (s + 5) = h 14 9 ∧ h' 19 (s + 6) = h 14 10 ∧ (∀ b, b < 5 → h' 19 (s + 7 + b) = h 15 b ∧ h' 19 (s + 12 + b) = h 16 b ∧ h' 19 (s + 17 + b) = h 17 b) ∧ (∀ i, i < 30 → h' 19 (s + 22 + i) = h 18 i) ∧ ∀ j, (j < s ∨ s + 52 ≤ j) → h' 19 j = h 19 j := by
  let h1 : Nat → Nat → Int32 := mvPut (mvPut (mvPut (mvPut (mvPut (mvPut (mvPut h 19 s (h 14 0)) 19 (s + 1) (h 14 1)) 19 (s + 2) (h 14 2)) 19 (s + 3) (h 14 3)) 19 (s + 4) (h 14 4)) 19 (s + 5) (h 14 9)) 19 (s + 6) (h 14 10)
  let h2 : Nat → Nat → Int32 := va_up h1 19 (va_cpy (h1 15) (h1 19) 0 (s + 7) 5)
  let h3 : Nat → Nat → Int32 := va_up h2 19 (va_cpy (h2 16) (h2 19) 0 (s + 7 + 5) 5)
  let h4 : Nat → Nat → Int32 := va_up h3 19 (va_cpy (h3 17) (h3 19) 0 (s + 7 + 10) 5)
  let h5 : Nat → Nat → Int32 := va_up h4 19 (va_cpy (h4 18) (h4 19) 0 (s + 7 + 15) 30)
  refine ⟨h5, ?_, CF_up (CF_up (CF_up (CF_up (CF_put (CF_put (CF_put (CF_put (CF_put (CF_put (CF_put CF_refl rfl) rfl) rfl) rfl) rfl) rfl) rfl) rfl) rfl) rfl) rfl, pk_row (h 19) (h 15) (h 16) (h 17) (h 18) s _ _ _ _ _ _ _ (h5 19) rfl⟩
  show avA _ 87 0 [.ref 14, .ref 19, .int (nI (s))] [] _ _
  refine a_aload_1 rfl rfl ?_
  refine a_iload_2 rfl rfl ?_
  refine a_aload_0 rfl rfl ?_
  refine a_geti rfl rfl rfl (fun _ _ _ => rfl) ?_
  refine a_iast rfl rfl rfl rfl (by omega) (by decide) ?_
  refine a_aload_1 rfl rfl ?_
  refine a_iload_2 rfl rfl ?_
  refine a_iconst (v := (nI 1)) rfl rfl rfl ?_
  refine a_iaddN rfl rfl ?_
  refine a_aload_0 rfl rfl ?_
  refine a_geti rfl rfl rfl (fun _ _ _ => rfl) ?_
  refine a_iast rfl rfl rfl rfl (by omega) (by decide) ?_
  refine a_aload_1 rfl rfl ?_
  refine a_iload_2 rfl rfl ?_
  refine a_iconst (v := (nI 2)) rfl rfl rfl ?_
  refine a_iaddN rfl rfl ?_
  refine a_aload_0 rfl rfl ?_
  refine a_geti rfl rfl rfl (fun _ _ _ => rfl) ?_
  refine a_iast rfl rfl rfl rfl (by omega) (by decide) ?_
  refine a_aload_1 rfl rfl ?_
  refine a_iload_2 rfl rfl ?_
  refine a_iconst (v := (nI 3)) rfl rfl rfl ?_
  refine a_iaddN rfl rfl ?_
  refine a_aload_0 rfl rfl ?_
  refine a_geti rfl rfl rfl (fun _ _ _ => rfl) ?_
  refine a_iast rfl rfl rfl rfl (by omega) (by decide) ?_
  refine a_aload_1 rfl rfl ?_
  refine a_iload_2 rfl rfl ?_
  refine a_iconst (v := (nI 4)) rfl rfl rfl ?_
  refine a_iaddN rfl rfl ?_
  refine a_aload_0 rfl rfl ?_
  refine a_geti rfl rfl rfl (fun _ _ _ => rfl) ?_
  refine a_iast rfl rfl rfl rfl (by omega) (by decide) ?_
  refine a_aload_1 rfl rfl ?_
  refine a_iload_2 rfl rfl ?_
  refine a_iconst (v := (nI 5)) rfl rfl rfl ?_
  refine a_iaddN rfl rfl ?_
  refine a_aload_0 rfl rfl ?_
  refine a_geti rfl rfl rfl (fun _ _ _ => rfl) ?_
  refine a_iast rfl rfl rfl rfl (by omega) (by decide) ?_
  refine a_aload_1 rfl rfl ?_
  refine a_iload_2 rfl rfl ?_
  refine a_bipush (v := (nI 6)) rfl rfl rfl ?_
  refine a_iaddN rfl rfl ?_
  refine a_aload_0 rfl rfl ?_
  refine a_geti rfl rfl rfl (fun _ _ _ => rfl) ?_
  refine a_iast rfl rfl rfl rfl (by omega) (by decide) ?_
  refine a_aload_0 rfl rfl ?_
  refine a_getr rfl rfl rfl (fun _ _ _ => rfl) rfl ?_
  refine a_iconst (v := (nI 0)) rfl rfl rfl ?_
  refine a_aload_1 rfl rfl ?_
  refine a_iload_2 rfl rfl ?_
  refine a_bipush (v := (nI 7)) rfl rfl rfl ?_
  refine a_iaddN rfl rfl ?_
  refine a_iconst (v := (nI 5)) rfl rfl rfl ?_
  refine a_copy rfl rfl rfl rfl rfl rfl rfl (by omega) (by omega) (by decide) (Nat.le_of_ble_eq_true rfl) ?_
  refine a_aload_0 rfl rfl ?_
  refine a_getr rfl rfl rfl (fun _ _ _ => rfl) rfl ?_
  refine a_iconst (v := (nI 0)) rfl rfl rfl ?_
  refine a_aload_1 rfl rfl ?_
  refine a_iload_2 rfl rfl ?_
  refine a_bipush (v := (nI 7)) rfl rfl rfl ?_
  refine a_iaddN rfl rfl ?_
  refine a_iconst (v := (nI 5)) rfl rfl rfl ?_
  refine a_iaddN rfl rfl ?_
  refine a_iconst (v := (nI 5)) rfl rfl rfl ?_
  refine a_copy rfl rfl rfl rfl rfl rfl rfl (by omega) (by omega) (by decide) (Nat.le_of_ble_eq_true rfl) ?_
  refine a_aload_0 rfl rfl ?_
  refine a_getr rfl rfl rfl (fun _ _ _ => rfl) rfl ?_
  refine a_iconst (v := (nI 0)) rfl rfl rfl ?_
  refine a_aload_1 rfl rfl ?_
  refine a_iload_2 rfl rfl ?_
  refine a_bipush (v := (nI 7)) rfl rfl rfl ?_
  refine a_iaddN rfl rfl ?_
  refine a_bipush (v := (nI 10)) rfl rfl rfl ?_
  refine a_iaddN rfl rfl ?_
  refine a_iconst (v := (nI 5)) rfl rfl rfl ?_
  refine a_copy rfl rfl rfl rfl rfl rfl rfl (by omega) (by omega) (by decide) (Nat.le_of_ble_eq_true rfl) ?_
  refine a_aload_0 rfl rfl ?_
  refine a_getr rfl rfl rfl (fun _ _ _ => rfl) rfl ?_
  refine a_iconst (v := (nI 0)) rfl rfl rfl ?_
  refine a_aload_1 rfl rfl ?_
  refine a_iload_2 rfl rfl ?_
  refine a_bipush (v := (nI 7)) rfl rfl rfl ?_
  refine a_iaddN rfl rfl ?_
  refine a_bipush (v := (nI 15)) rfl rfl rfl ?_
  refine a_iaddN rfl rfl ?_
  refine a_bipush (v := (nI 30)) rfl rfl rfl ?_
  refine a_copy rfl rfl rfl rfl rfl rfl rfl (by omega) (by omega) (by decide) (Nat.le_of_ble_eq_true rfl) ?_
  exact a_vret rfl rfl
theorem e_remember (pf pc : Nat) (h1 : pf < 30) (h2 : pc ≤ 30) (e4 : h 11 4 = nI pf) (e5 : h 11 5 = nI pc) : ∃ h', avE 1 86 [.ref 11] (sX L t lt rt rp sw h gl) (none, sX L t lt rt rp sw h' gl) ∧ CF [11, 19] h h' ∧ (∀ k, k ≠ 4 → k ≠ 5 → h' 11 k = h 11 k) ∧ h' 11 4 = nI (if pc < 30 then pf else (pf + 1) % 30) ∧ h' 11 5 = nI (if pc < 30 then pc + 1 else pc) ∧ h' 19 ((pf + pc) % 30 * 52) = h 14 0 ∧ h' 19 ((pf + pc) % 30 * 52 + 1) = h 14 1 ∧ h' 19 ((pf + pc) % 30 * 52 + 2) = h 14 2 ∧ h' 19 ((pf + pc) % 30 * 52 + 3) = h 14 3 ∧ h' 19 ((pf + pc) % 30 * 52 + 4) = h 14 4 ∧ h' 19 ((pf + pc) % 30 * 52 + 5) = h 14 9 ∧ h' 19 ((pf + pc) % 30 * 52 + 6) = h 14 10 ∧ (∀ b, b < 5 → h' 19 ((pf + pc) % 30 * 52 + 7 + b) = h 15 b ∧ h' 19 ((pf + pc) % 30 * 52 + 12 + b) = h 16 b ∧ h' 19 ((pf + pc) % 30 * 52 + 17 + b) = h 17 b) ∧ (∀ i, i < 30 → h' 19 ((pf + pc) % 30 * 52 + 22 + i) = h 18 i) ∧ ∀ j, (j < (pf + pc) % 30 * 52 ∨ (pf + pc) % 30 * 52 + 52 ≤ j) → h' 19 j = h 19 j := by
  obtain ⟨hp, C, c, p⟩ := e_pack (L := L) (t := t) (lt := lt) (rt := rt) (rp := rp) (sw := sw) (h := h) (gl := gl) ((pf + pc) % 30 * 52) (by omega)
  have q11 : hp 11 = h 11 := c 11 rfl
  have e4' : hp 11 4 = nI pf := by rw [q11]; exact e4
  have e5' : hp 11 5 = nI pc := by rw [q11]; exact e5
  by_cases c30 : pc < 30
  · refine ⟨mvPut hp 11 5 (nI (pc + 1)), ?_, CF_put (CF_mono (by decide) c) rfl, fun k k4 k5 => ?_, ?_, ?_, p⟩
    · show avA _ 86 0 [.ref 11] [] _ _
      refine a_aload_0 rfl rfl ?_
      refine a_getr rfl rfl rfl (fun _ _ _ => rfl) rfl ?_
      refine a_aload_0 rfl rfl ?_
      refine a_getr rfl rfl rfl (fun _ _ _ => rfl) rfl ?_
      refine a_aload_0 rfl rfl ?_
      refine a_geti rfl rfl rfl (fun _ _ _ => rfl) ?_
      refine a_as (y := nI (pf)) e4 ?_
      refine a_aload_0 rfl rfl ?_
      refine a_geti rfl rfl rfl (fun _ _ _ => rfl) ?_
      refine a_as (y := nI (pc)) e5 ?_
      refine a_iaddN rfl rfl ?_
      refine a_bipush (v := (nI 30)) rfl rfl rfl ?_
      refine a_iremN rfl rfl (by omega) (by omega) (by omega) ?_
      refine a_bipush (v := (nI 52)) rfl rfl rfl ?_
      refine a_imulN rfl rfl ?_
      refine a_virt0 rfl rfl (C) (Nat.le_of_ble_eq_true rfl) ⟨rfl, rfl, rfl, rfl⟩ rfl rfl rfl (Nat.le_of_ble_eq_true rfl) rfl rfl ?_
      refine a_aload_0 rfl rfl ?_
      refine a_geti rfl rfl rfl (fun _ _ _ => rfl) ?_
      refine a_as (y := nI (pc)) e5' ?_
      refine a_bipush (v := (nI 30)) rfl rfl rfl ?_
      refine a_cmpN_ge rfl rfl rfl (by omega) (by omega) (fun c_32 => False.elim (by omega)) (fun _ => ?_)
      refine a_aload_0 rfl rfl ?_
      refine a_dup rfl rfl rfl ?_
      refine a_geti rfl rfl rfl (fun _ _ _ => rfl) ?_
      refine a_as (y := nI (pc)) e5' ?_
      refine a_iconst (v := (nI 1)) rfl rfl rfl ?_
      refine a_iaddN rfl rfl ?_
      refine a_puti rfl rfl rfl rfl ?_
      refine a_goto rfl rfl ?_
      exact a_vret rfl rfl
    · show va_up (hp 11) 5 _ k = _
      rw [va_up_ne _ _ k5, q11]
    · rw [if_pos c30]; exact e4'
    · rw [if_pos c30]; rfl
  · refine ⟨mvPut hp 11 4 (nI ((pf + 1) % 30)), ?_, CF_put (CF_mono (by decide) c) rfl, fun k k4 k5 => ?_, ?_, ?_, p⟩
    · show avA _ 86 0 [.ref 11] [] _ _
      refine a_aload_0 rfl rfl ?_
      refine a_getr rfl rfl rfl (fun _ _ _ => rfl) rfl ?_
      refine a_aload_0 rfl rfl ?_
      refine a_getr rfl rfl rfl (fun _ _ _ => rfl) rfl ?_
      refine a_aload_0 rfl rfl ?_
      refine a_geti rfl rfl rfl (fun _ _ _ => rfl) ?_
      refine a_as (y := nI (pf)) e4 ?_
      refine a_aload_0 rfl rfl ?_
      refine a_geti rfl rfl rfl (fun _ _ _ => rfl) ?_
      refine a_as (y := nI (pc)) e5 ?_
      refine a_iaddN rfl rfl ?_
      refine a_bipush (v := (nI 30)) rfl rfl rfl ?_
      refine a_iremN rfl rfl (by omega) (by omega) (by omega) ?_
      refine a_bipush (v := (nI 52)) rfl rfl rfl ?_
      refine a_imulN rfl rfl ?_
      refine a_virt0 rfl rfl (C) (Nat.le_of_ble_eq_true rfl) ⟨rfl, rfl, rfl, rfl⟩ rfl rfl rfl (Nat.le_of_ble_eq_true rfl) rfl rfl ?_
      refine a_aload_0 rfl rfl ?_
      refine a_geti rfl rfl rfl (fun _ _ _ => rfl) ?_
      refine a_as (y := nI (pc)) e5' ?_
      refine a_bipush (v := (nI 30)) rfl rfl rfl ?_
      refine a_cmpN_ge rfl rfl rfl (by omega) (by omega) (fun _ => ?_) (fun c_32 => False.elim (by omega))
      refine a_aload_0 rfl rfl ?_
      refine a_aload_0 rfl rfl ?_
      refine a_geti rfl rfl rfl (fun _ _ _ => rfl) ?_
      refine a_as (y := nI (pf)) e4' ?_
      refine a_iconst (v := (nI 1)) rfl rfl rfl ?_
      refine a_iaddN rfl rfl ?_
      refine a_bipush (v := (nI 30)) rfl rfl rfl ?_
      refine a_iremN rfl rfl (by omega) (by omega) (by omega) ?_
      refine a_puti rfl rfl rfl rfl ?_
      exact a_vret rfl rfl
    · show va_up (hp 11) 4 _ k = _
      rw [va_up_ne _ _ k4, q11]
    · rw [if_neg c30]; rfl
    · rw [if_neg c30]; exact e5'
/-- remember keeps the steps as keep does -/
theorem e_keep11 (A : Nat → Int32) (hA : rOK A) (hM : MR 14 A h) (hK : BK true 14 A h) (hP : PR 11 A h) : ∃ h', avE 1 86 [.ref 11] (sX L t lt rt rp sw h gl) (none, sX L t lt rt rp sw h' gl) ∧ CF [11, 19] h h' ∧ (∀ k, k ≠ 4 → k ≠ 5 → h' 11 k = h 11 k) ∧ PR 11 (kpA A) h' := by
  obtain ⟨pf, pc, p1, p2, p3, p4, p5, p6⟩ := hP
  obtain ⟨bf, bc, b1, b2, b3, b4, b5⟩ := hK
  obtain ⟨b6, b7⟩ := b5 rfl
  obtain ⟨a0, a1, a2, a3, a4, ab⟩ := hM
  have h0 := gN_le (m := 5) hA (i := 0) (by omega) (by decide)
  obtain ⟨h', C, c, d, d4, d5, s0, s1, s2, s3, s4, s5, s6, sb, si, so⟩ := e_remember (L := L) (t := t) (lt := lt) (rt := rt) (rp := rp) (sw := sw) (h := h) (gl := gl) pf pc p1 p2 p3 p4
  refine ⟨h', C, c, d, ?_⟩
  have cnt : ∀ k, k < 30 → gN A (166 + 51 * k) ≤ 5 := fun k hk => gN_le (m := 5) hA (by omega) (by have := bd_step (j := 0) hk (by omega); rw [Nat.add_zero] at this; rw [this]; decide)
  -- the new step
  have new : ∀ x, (∀ j, j < 51 → kpA A (x + j) = stp A j) → SR (h' 19) ((pf + pc) % 30 * 52) (kpA A) x := by
    intro x hx
    have x0 : kpA A x = A 0 := hx 0 (by omega)
    have g0 : gN (kpA A) x = gN A 0 := by unfold gN; rw [x0]
    refine ⟨?_, ?_, ?_, ?_, ?_, fun b hb => ⟨?_, ?_, ?_⟩, bf, bc, b1, b2, ?_, ?_, ?_, fun i hi => ?_⟩
    · rw [s0, hx 2 (by omega)]; exact a0
    · rw [s1, hx 3 (by omega)]; exact a1
    · rw [s2, hx 1 (by omega)]; exact a2
    · rw [s3, hx 4 (by omega)]; exact a3
    · rw [s4, x0]; exact a4
    · rw [(sb b (by omega)).1, Nat.add_assoc, hx (6 + 3 * b) (by omega), (ab b (by omega)).1]
      unfold stp
      rw [if_neg (by omega), if_neg (by omega), if_pos (by omega)]
      congr 1
      omega
    · rw [(sb b (by omega)).2.1, Nat.add_assoc, hx (7 + 3 * b) (by omega), (ab b (by omega)).2.1]
      unfold stp
      rw [if_neg (by omega), if_neg (by omega), if_pos (by omega)]
      congr 1
      omega
    · rw [(sb b (by omega)).2.2, Nat.add_assoc, hx (8 + 3 * b) (by omega), (ab b (by omega)).2.2]
      unfold stp
      rw [if_neg (by omega), if_neg (by omega), if_pos (by omega)]
      congr 1
      omega
    · rw [s5]; exact b3
    · rw [s6]; exact b4
    · unfold gN; rw [hx 5 (by omega)]; exact b6
    · rw [si _ (by omega), Nat.add_assoc, hx (21 + i) (by omega)]
      unfold stp
      rw [if_neg (by omega), if_neg (by omega), if_neg (by omega), show 21 + i - 21 = i by omega]
      exact b7 i hi
  by_cases c30 : pc < 30
  · rw [if_pos c30] at d4 d5
    refine ⟨pf, pc + 1, p1, by omega, d4, d5, ?_, fun k hk => ?_⟩
    · rw [gN_nI kpA_3 (by split <;> omega), if_neg (by omega), p5]
    · by_cases e : k = pc
      · subst e
        refine new _ (fun j hj => ?_)
        have := kpA_new (A := A) (j := j) (by omega) hj
        rw [if_neg (by omega), p5] at this
        exact this
      · refine SR_ext (cnt k (by omega)) (fun j hj => so _ (by omega)) (fun j hj => ?_) (p6 k (by omega))
        have := kpA_old (A := A) (k := k) (j := j) (by omega) (by omega) (fun _ => by omega) hj
        rw [if_neg (by omega)] at this
        exact this
  · have e30 : pc = 30 := by omega
    subst e30
    rw [if_neg c30] at d4 d5
    refine ⟨(pf + 1) % 30, 30, by omega, by omega, d4, d5, ?_, fun k hk => ?_⟩
    · rw [gN_nI kpA_3 (by split <;> omega), if_pos p5]
    · by_cases e : k = 29
      · subst e
        rw [show ((pf + 1) % 30 + 29) % 30 = (pf + 30) % 30 by omega]
        refine new _ (fun j hj => ?_)
        have := kpA_new (A := A) (j := j) (by omega) hj
        rw [if_pos p5] at this
        exact this
      · rw [show ((pf + 1) % 30 + k) % 30 = (pf + (k + 1)) % 30 by omega]
        refine SR_ext (cnt (k + 1) (by omega)) (fun j hj => so _ (by omega)) (fun j hj => ?_) (p6 (k + 1) (by omega))
        have := kpA_old (A := A) (k := k) (j := j) (by omega) (by omega) (fun _ => by omega) hj
        rw [if_pos p5] at this
        exact this
theorem l_kp1 (A : Nat → Int32) (y2 y3 : Value) (r : Option Value × mvSt) (m : Nat) : ∀ i, i + m = 1479 → avA 1 239 46 [.ref 81, .int (nI 1479), y2, y3] [] (sX L t lt rt rp sw (va_up h 82 (rw2 166 1479 (fun j => A (217 + j)) A)) gl) r → avA 1 239 13 [.ref 81, .int (nI i), y2, y3] [] (sX L t lt rt rp sw (va_up h 82 (rw2 166 i (fun j => A (217 + j)) A)) gl) r := by
  induction m with
  | zero =>
    intro i hi Z
    have e : i = 1479 := by omega
    subst e
    refine a_iload_1 rfl rfl ?_
    refine a_sipush (v := (nI 1479)) rfl rfl rfl ?_
    refine a_cmpN_ge rfl rfl rfl (by omega) (by omega) (fun _ => ?_) (fun c_17 => absurd c_17 (by decide))
    exact Z
  | succ m ih =>
    intro i hi Z
    refine a_iload_1 rfl rfl ?_
    refine a_sipush (v := (nI 1479)) rfl rfl rfl ?_
    refine a_cmpN_ge rfl rfl rfl (by omega) (by omega) (fun c_17 => False.elim (by omega)) (fun _ => ?_)
    refine a_aload_0 rfl rfl ?_
    refine a_getr rfl rfl rfl (fun _ _ _ => rfl) rfl ?_
    refine a_sipush (v := (nI 166)) rfl rfl rfl ?_
    refine a_iload_1 rfl rfl ?_
    refine a_iaddN rfl rfl ?_
    refine a_aload_0 rfl rfl ?_
    refine a_getr rfl rfl rfl (fun _ _ _ => rfl) rfl ?_
    refine a_sipush (v := (nI 217)) rfl rfl rfl ?_
    refine a_iload_1 rfl rfl ?_
    refine a_iaddN rfl rfl ?_
    refine a_iald rfl rfl (Or.inl rfl) rfl (by omega) (by decide) ?_
    refine a_as (y := A (217 + i)) (show rw2 166 i (fun j => A (217 + j)) A (217 + i) = A (217 + i) by rw [rw2_out (by omega)]) ?_
    refine a_iast rfl rfl rfl rfl (by omega) (by decide) ?_
    rw [up_put, rw2_s _ _ _ _ rfl]
    refine a_iinc_1 rfl rfl (nI_inc _ _) rfl ?_
    refine a_goto rfl rfl ?_
    exact ih (i + 1) (by omega) Z
theorem l_kp2 (A B : Nat → Int32) (x : Nat) (hx : 166 ≤ x ∧ x + 51 ≤ 1696) (hB : ∀ i, i < 166 → i ≠ 3 → B i = A i) (y3 : Value) (r : Option Value × mvSt) (m : Nat) : ∀ i, i + m = 5 → avA 1 239 114 [.ref 81, .int (nI x), .int (nI 5), y3] [] (sX L t lt rt rp sw (va_up h 82 (rw2 x 6 (stp A) B)) gl) r → avA 1 239 84 [.ref 81, .int (nI x), .int (nI i), y3] [] (sX L t lt rt rp sw (va_up h 82 (rw2 x (1 + i) (stp A) B)) gl) r := by
  induction m with
  | zero =>
    intro i hi Z
    have e : i = 5 := by omega
    subst e
    refine a_iload_2 rfl rfl ?_
    refine a_iconst (v := (nI 5)) rfl rfl rfl ?_
    refine a_cmpN_ge rfl rfl rfl (by omega) (by omega) (fun _ => ?_) (fun c_86 => absurd c_86 (by decide))
    exact Z
  | succ m ih =>
    intro i hi Z
    have ev : stp A (1 + i) = A (8 + i) := by
      unfold stp
      rw [if_neg (by omega), if_pos (by omega)]
      congr 1
      omega
    refine a_iload_2 rfl rfl ?_
    refine a_iconst (v := (nI 5)) rfl rfl rfl ?_
    refine a_cmpN_ge rfl rfl rfl (by omega) (by omega) (fun c_86 => False.elim (by omega)) (fun _ => ?_)
    refine a_aload_0 rfl rfl ?_
    refine a_getr rfl rfl rfl (fun _ _ _ => rfl) rfl ?_
    refine a_iload_1 rfl rfl ?_
    refine a_iconst (v := (nI 1)) rfl rfl rfl ?_
    refine a_iaddN rfl rfl ?_
    refine a_iload_2 rfl rfl ?_
    refine a_iaddN rfl rfl ?_
    refine a_as (y := nI (x + (1 + i))) (congrArg nI (by omega)) ?_
    refine a_aload_0 rfl rfl ?_
    refine a_getr rfl rfl rfl (fun _ _ _ => rfl) rfl ?_
    refine a_bipush (v := (nI 8)) rfl rfl rfl ?_
    refine a_iload_2 rfl rfl ?_
    refine a_iaddN rfl rfl ?_
    refine a_iald rfl rfl (Or.inl rfl) rfl (by omega) (by decide) ?_
    refine a_as (y := A (8 + i)) (show rw2 x (1 + i) (stp A) B (8 + i) = A (8 + i) by rw [rw2_out (by omega)]; exact hB _ (by omega) (by omega)) ?_
    refine a_iast rfl rfl rfl rfl (by omega) (by decide) ?_
    rw [up_put, rw2_s _ _ _ _ ev.symm]
    refine a_iinc_2 rfl rfl (nI_inc _ _) rfl ?_
    refine a_goto rfl rfl ?_
    exact ih (i + 1) (by omega) Z
theorem l_kp3 (A B : Nat → Int32) (x : Nat) (hx : 166 ≤ x ∧ x + 51 ≤ 1696) (hB : ∀ i, i < 166 → i ≠ 3 → B i = A i) (r : Option Value × mvSt) (m : Nat) : ∀ (i : Nat) (y3 : Value), i + m = 5 → (∀ y3, avA 1 239 161 [.ref 81, .int (nI x), .int (nI 5), y3] [] (sX L t lt rt rp sw (va_up h 82 (rw2 x 21 (stp A) B)) gl) r) → avA 1 239 116 [.ref 81, .int (nI x), .int (nI i), y3] [] (sX L t lt rt rp sw (va_up h 82 (rw2 x (6 + 3 * i) (stp A) B)) gl) r := by
  induction m with
  | zero =>
    intro i y3 hi Z
    have e : i = 5 := by omega
    subst e
    refine a_iload_2 rfl rfl ?_
    refine a_iconst (v := (nI 5)) rfl rfl rfl ?_
    refine a_cmpN_ge rfl rfl rfl (by omega) (by omega) (fun _ => ?_) (fun c_118 => absurd c_118 (by decide))
    exact Z _
  | succ m ih =>
    intro i y3 hi Z
    have ev : ∀ k, k < 3 → stp A (6 + 3 * i + k) = A (13 + 5 * i + k) := fun k hk => by
      unfold stp
      rw [if_neg (by omega), if_neg (by omega), if_pos (by omega)]
      congr 1
      omega
    have eg : ∀ n k, k < 3 → rw2 x n (stp A) B (13 + 5 * i + k) = A (13 + 5 * i + k) := fun n k hk => by
      rw [rw2_out (by omega)]
      exact hB _ (by omega) (by omega)
    have g : ∀ n k, k < 3 → avE 0 187 [.ref 81, .int (nI i), .int (nI k)] (sX L t lt rt rp sw (va_up h 82 (rw2 x n (stp A) B)) gl) (some (.int (A (13 + 5 * i + k))), sX L t lt rt rp sw (va_up h 82 (rw2 x n (stp A) B)) gl) := fun n k hk => by
      refine av_eq (r_get i k (by omega) (by omega)) ?_
      rw [va_up_self, eg n k hk]
    have e3 : rw2 x (6 + 3 * i + 2 + 1) (stp A) B = rw2 x (6 + 3 * (i + 1)) (stp A) B := by congr 1
    have Y : avA 1 239 116 [.ref 81, .int (nI x), .int (nI (i + 1)), .int (nI 3)] [] (sX L t lt rt rp sw (va_up h 82 (rw2 x (6 + 3 * i + 2 + 1) (stp A) B)) gl) r := by
      rw [e3]
      exact ih (i + 1) _ (by omega) Z
    have f : ∀ k, k < 3 → ∀ (y : Value), avA 1 239 123 [.ref 81, .int (nI x), .int (nI i), .int (nI (k + 1))] [] (sX L t lt rt rp sw (va_up h 82 (rw2 x (6 + 3 * i + k + 1) (stp A) B)) gl) r → avA 1 239 123 [.ref 81, .int (nI x), .int (nI i), .int (nI k)] [] (sX L t lt rt rp sw (va_up h 82 (rw2 x (6 + 3 * i + k) (stp A) B)) gl) r := fun k hk y Z2 => by
      refine a_iload_3 rfl rfl ?_
      refine a_iconst (v := (nI 3)) rfl rfl rfl ?_
      refine a_cmpN_ge rfl rfl rfl (by omega) (by omega) (fun c_125 => False.elim (by omega)) (fun _ => ?_)
      refine a_aload_0 rfl rfl ?_
      refine a_getr rfl rfl rfl (fun _ _ _ => rfl) rfl ?_
      refine a_iload_1 rfl rfl ?_
      refine a_bipush (v := (nI 6)) rfl rfl rfl ?_
      refine a_iaddN rfl rfl ?_
      refine a_iconst (v := (nI 3)) rfl rfl rfl ?_
      refine a_iload_2 rfl rfl ?_
      refine a_imulN rfl rfl ?_
      refine a_iaddN rfl rfl ?_
      refine a_iload_3 rfl rfl ?_
      refine a_iaddN rfl rfl ?_
      refine a_as (y := nI (x + (6 + 3 * i + k))) (congrArg nI (by omega)) ?_
      refine a_aload_0 rfl rfl ?_
      refine a_iload_2 rfl rfl ?_
      refine a_iload_3 rfl rfl ?_
      refine a_virtI rfl rfl (g _ k hk) (Nat.le_of_ble_eq_true rfl) ⟨rfl, rfl, rfl, rfl⟩ rfl rfl rfl (Nat.le_of_ble_eq_true rfl) rfl rfl ?_
      refine a_iast rfl rfl rfl rfl (by omega) (by decide) ?_
      rw [up_put, rw2_s _ _ _ _ (ev k hk).symm]
      refine a_iinc_3 rfl rfl (nI_inc _ _) rfl ?_
      refine a_goto rfl rfl ?_
      exact Z2
    refine a_iload_2 rfl rfl ?_
    refine a_iconst (v := (nI 5)) rfl rfl rfl ?_
    refine a_cmpN_ge rfl rfl rfl (by omega) (by omega) (fun c_118 => False.elim (by omega)) (fun _ => ?_)
    refine a_iconst (v := (nI 0)) rfl rfl rfl ?_
    refine a_istore_3 rfl rfl rfl ?_
    refine f 0 (by omega) mvU (f 1 (by omega) mvU (f 2 (by omega) mvU ?_))
    refine a_iload_3 rfl rfl ?_
    refine a_iconst (v := (nI 3)) rfl rfl rfl ?_
    refine a_cmpN_ge rfl rfl rfl (by omega) (by omega) (fun _ => ?_) (fun c_125 => absurd c_125 (by decide))
    refine a_iinc_2 rfl rfl (nI_inc _ _) rfl ?_
    refine a_goto rfl rfl ?_
    exact Y
theorem l_kp4 (A B : Nat → Int32) (x : Nat) (hx : 166 ≤ x ∧ x + 51 ≤ 1696) (hB : ∀ i, 1696 ≤ i → B i = A i) (y3 : Value) (r : Option Value × mvSt) (m : Nat) : ∀ i, i + m = 30 → avA 1 239 196 [.ref 81, .int (nI x), .int (nI 30), y3] [] (sX L t lt rt rp sw (va_up h 82 (rw2 x 51 (stp A) B)) gl) r → avA 1 239 163 [.ref 81, .int (nI x), .int (nI i), y3] [] (sX L t lt rt rp sw (va_up h 82 (rw2 x (21 + i) (stp A) B)) gl) r := by
  induction m with
  | zero =>
    intro i hi Z
    have e : i = 30 := by omega
    subst e
    refine a_iload_2 rfl rfl ?_
    refine a_bipush (v := (nI 30)) rfl rfl rfl ?_
    refine a_cmpN_ge rfl rfl rfl (by omega) (by omega) (fun _ => ?_) (fun c_166 => absurd c_166 (by decide))
    exact Z
  | succ m ih =>
    intro i hi Z
    have ev : stp A (21 + i) = A (1696 + i) := by
      unfold stp
      rw [if_neg (by omega), if_neg (by omega), if_neg (by omega)]
      congr 1
      omega
    refine a_iload_2 rfl rfl ?_
    refine a_bipush (v := (nI 30)) rfl rfl rfl ?_
    refine a_cmpN_ge rfl rfl rfl (by omega) (by omega) (fun c_166 => False.elim (by omega)) (fun _ => ?_)
    refine a_aload_0 rfl rfl ?_
    refine a_getr rfl rfl rfl (fun _ _ _ => rfl) rfl ?_
    refine a_iload_1 rfl rfl ?_
    refine a_bipush (v := (nI 21)) rfl rfl rfl ?_
    refine a_iaddN rfl rfl ?_
    refine a_iload_2 rfl rfl ?_
    refine a_iaddN rfl rfl ?_
    refine a_as (y := nI (x + (21 + i))) (congrArg nI (by omega)) ?_
    refine a_aload_0 rfl rfl ?_
    refine a_getr rfl rfl rfl (fun _ _ _ => rfl) rfl ?_
    refine a_sipush (v := (nI 1696)) rfl rfl rfl ?_
    refine a_iload_2 rfl rfl ?_
    refine a_iaddN rfl rfl ?_
    refine a_iald rfl rfl (Or.inl rfl) rfl (by omega) (by decide) ?_
    refine a_as (y := A (1696 + i)) (show rw2 x (21 + i) (stp A) B (1696 + i) = A (1696 + i) by rw [rw2_out (by omega)]; exact hB _ (by omega)) ?_
    refine a_iast rfl rfl rfl rfl (by omega) (by decide) ?_
    rw [up_put, rw2_s _ _ _ _ ev.symm]
    refine a_iinc_2 rfl rfl (nI_inc _ _) rfl ?_
    refine a_goto rfl rfl ?_
    exact ih (i + 1) (by omega) Z
/-- from the storing on -/
theorem l_kp5 (A B : Nat → Int32) (s : Nat) (hs : s < 30) (hB : ∀ i, i < 166 → i ≠ 3 → B i = A i) (hB2 : ∀ i, 1696 ≤ i → B i = A i) (h3 : B 3 = nI s) (y1 y2 y3 : Value) : avA 1 239 56 [.ref 81, y1, y2, y3] [] (sX L t lt rt rp sw (va_up h 82 B) gl) (none, sX L t lt rt rp sw (va_up h 82 (va_up (rw2 (166 + 51 * s) 51 (stp A) B) 3 (nI (s + 1)))) gl) := by
  have e0 : va_up (rw2 (166 + 51 * s) 0 (stp A) B) (166 + 51 * s + 0) (B 0) = rw2 (166 + 51 * s) 1 (stp A) B := rw2_s _ _ _ _ (by rw [hB 0 (by omega) (by omega)]; rfl)
  rw [rw2_0, Nat.add_zero] at e0
  refine a_sipush (v := (nI 166)) rfl rfl rfl ?_
  refine a_bipush (v := (nI 51)) rfl rfl rfl ?_
  refine a_aload_0 rfl rfl ?_
  refine a_getr rfl rfl rfl (fun _ _ _ => rfl) rfl ?_
  refine a_iconst (v := (nI 3)) rfl rfl rfl ?_
  refine a_iald rfl rfl (Or.inl rfl) rfl (by omega) (by decide) ?_
  refine a_as (y := nI (s)) h3 ?_
  refine a_imulN rfl rfl ?_
  refine a_iaddN rfl rfl ?_
  refine a_istore_1 rfl rfl rfl ?_
  refine a_aload_0 rfl rfl ?_
  refine a_getr rfl rfl rfl (fun _ _ _ => rfl) rfl ?_
  refine a_iload_1 rfl rfl ?_
  refine a_aload_0 rfl rfl ?_
  refine a_getr rfl rfl rfl (fun _ _ _ => rfl) rfl ?_
  refine a_iconst (v := (nI 0)) rfl rfl rfl ?_
  refine a_iald rfl rfl (Or.inl rfl) rfl (by omega) (by decide) ?_
  refine a_iast rfl rfl rfl rfl (by omega) (by decide) ?_
  rw [up_put]
  refine av_h (congrArg (va_up h 82) e0) ?_
  refine a_iconst (v := (nI 0)) rfl rfl rfl ?_
  refine a_istore_2 rfl rfl rfl ?_
  refine l_kp2 A B (166 + 51 * s) (by omega) hB y3 _ 5 0 rfl ?_
  refine a_iconst (v := (nI 0)) rfl rfl rfl ?_
  refine a_istore_2 rfl rfl rfl ?_
  refine l_kp3 A B (166 + 51 * s) (by omega) hB _ 5 0 _ rfl (fun y3 => ?_)
  refine a_iconst (v := (nI 0)) rfl rfl rfl ?_
  refine a_istore_2 rfl rfl rfl ?_
  refine l_kp4 A B (166 + 51 * s) (by omega) hB2 _ _ 30 0 rfl ?_
  refine a_aload_0 rfl rfl ?_
  refine a_getr rfl rfl rfl (fun _ _ _ => rfl) rfl ?_
  refine a_iconst (v := (nI 3)) rfl rfl rfl ?_
  refine a_dup2 rfl rfl rfl ?_
  refine a_iald rfl rfl (Or.inl rfl) rfl (by omega) (by decide) ?_
  refine a_as (y := nI (s)) (show rw2 (166 + 51 * s) 51 (stp A) B 3 = nI s by rw [rw2_out (by omega)]; exact h3) ?_
  refine a_iconst (v := (nI 1)) rfl rfl rfl ?_
  refine a_iaddN rfl rfl ?_
  refine a_iast rfl rfl rfl rfl (by omega) (by decide) ?_
  rw [up_put]
  exact a_vret rfl rfl
theorem r_keep (hA : rOK (h 82)) : avE 1 239 [.ref 81] (sX L t lt rt rp sw h gl) (none, sX L t lt rt rp sw (va_up h 82 (kpA (h 82))) gl) := by
  have e3 : h 82 3 = nI (gN (h 82) 3) := gN_eq hA (by omega) (by decide)
  have hn := gN_le (m := 30) hA (i := 3) (by omega) (by decide)
  by_cases c : gN (h 82) 3 = 30
  · have ek : kpA (h 82) = va_up (rw2 (166 + 51 * 29) 51 (stp (h 82)) (va_up (rw2 166 1479 (fun j => h 82 (217 + j)) (h 82)) 3 (nI 29))) 3 (nI (29 + 1)) := by
      unfold kpA
      rw [if_pos c]
      funext i
      by_cases c3 : i = 3
      · subst c3; rw [va_up_self, va_up_self]
      · rw [va_up_ne _ _ c3, va_up_ne _ _ c3]
        by_cases ci : 1645 ≤ i ∧ i < 1696
        · obtain ⟨j, rfl⟩ := Nat.exists_eq_add_of_le ci.1
          rw [rw2_in (by omega), show 1645 + j = 166 + 51 * 29 + j by omega, rw2_in (by omega)]
        · rw [rw2_out (b := 1645) (by omega), rw2_out (b := 166 + 51 * 29) (by omega), va_up_ne _ _ c3]
    rw [ek]
    have a3 : rw2 166 1479 (fun j => h 82 (217 + j)) (h 82) 3 = nI 30 := by rw [rw2_out (by omega), e3, c]
    rw [c] at e3
    show avA _ 239 0 [.ref 81, mvU, mvU, mvU] [] _ _
    refine a_aload_0 rfl rfl ?_
    refine a_getr rfl rfl rfl (fun _ _ _ => rfl) rfl ?_
    refine a_iconst (v := (nI 3)) rfl rfl rfl ?_
    refine a_iald rfl rfl (Or.inl rfl) rfl (by omega) (by decide) ?_
    refine a_as (y := nI (30)) e3 ?_
    refine a_bipush (v := (nI 30)) rfl rfl rfl ?_
    refine a_cmpN_ne rfl rfl rfl (by omega) (by omega) (fun c_8 => False.elim (by omega)) (fun _ => ?_)
    refine a_iconst (v := (nI 0)) rfl rfl rfl ?_
    refine a_istore_1 rfl rfl rfl ?_
    refine av_h (h' := va_up h 82 (rw2 166 0 (fun j => h 82 (217 + j)) (h 82))) (by rw [rw2_0, up_id]) (l_kp1 (h 82) _ _ _ 1479 0 rfl ?_)
    refine a_aload_0 rfl rfl ?_
    refine a_getr rfl rfl rfl (fun _ _ _ => rfl) rfl ?_
    refine a_iconst (v := (nI 3)) rfl rfl rfl ?_
    refine a_dup2 rfl rfl rfl ?_
    refine a_iald rfl rfl (Or.inl rfl) rfl (by omega) (by decide) ?_
    refine a_as (y := nI (30)) a3 ?_
    refine a_iconst (v := (nI 1)) rfl rfl rfl ?_
    refine a_isub rfl rfl ?_
    refine a_as (y := nI 29) rfl ?_
    refine a_iast rfl rfl rfl rfl (by omega) (by decide) ?_
    rw [up_put]
    exact l_kp5 (h 82) _ 29 (by omega) (fun i h1 h2 => by rw [va_up_ne _ _ h2, rw2_out (by omega)]) (fun i h1 => by rw [va_up_ne _ _ (by omega), rw2_out (by omega)]) (va_up_self _ _ _) _ _ _
  · have ek : kpA (h 82) = va_up (rw2 (166 + 51 * gN (h 82) 3) 51 (stp (h 82)) (h 82)) 3 (nI (gN (h 82) 3 + 1)) := by
      unfold kpA
      rw [if_neg c]
    rw [ek]
    have Z := l_kp5 (L := L) (t := t) (lt := lt) (rt := rt) (rp := rp) (sw := sw) (h := h) (gl := gl) (h 82) (h 82) (gN (h 82) 3) (by omega) (fun _ _ _ => rfl) (fun _ _ => rfl) e3 mvU mvU mvU
    rw [up_id] at Z
    show avA _ 239 0 [.ref 81, mvU, mvU, mvU] [] _ _
    refine a_aload_0 rfl rfl ?_
    refine a_getr rfl rfl rfl (fun _ _ _ => rfl) rfl ?_
    refine a_iconst (v := (nI 3)) rfl rfl rfl ?_
    refine a_iald rfl rfl (Or.inl rfl) rfl (by omega) (by decide) ?_
    refine a_as (y := nI (gN (h 82) 3)) e3 ?_
    refine a_bipush (v := (nI 30)) rfl rfl rfl ?_
    refine a_cmpN_ne rfl rfl rfl (by omega) (by omega) (fun _ => ?_) (fun c_8 => False.elim (by omega))
    exact Z
end KE
