/-! THE REFERENCE'S PARSER: tokens, opening, the end of one, its beginning -/
def NT (b : Nat → Nat) (k n : Nat) : Prop := tP b k n = k ∧ (∀ i, i < n → tP b k i < k) ∧ n ≤ k ∧ k ≤ 300
/-- the reference stands at token i -/
def TS (b : Nat → Nat) (k n i : Nat) (h : Nat → Nat → Int32) (gl : Nat → Nat → Int64) : Prop := RP b k h ∧ NT b k n ∧ rTk b k (tP b k i) h gl ∧ i ≤ n
theorem NT_lt {b : Nat → Nat} {k n i : Nat} (H : NT b k n) (hi : i ≤ n) (hc : cdT b k i ≠ 46) : i < n := by
  by_cases e : i = n
  · subst e
    exfalso
    apply hc
    unfold cdT
    rw [H.1]
    unfold tk
    rw [if_pos (Nat.le_refl _)]
  · omega
theorem TS_of {b : Nat → Nat} {k n i : Nat} {h h' : Nat → Nat → Int32} {gl : Nat → Nat → Int64} (H : TS b k n i h gl) (e : ∀ j, j = 4 ∨ (7 ≤ j ∧ j ≤ 10) → h' 81 j = h 81 j) (e85 : h' 85 = h 85) : TS b k n i h' gl := by
  obtain ⟨⟨a1, a2, a3⟩, a4, ⟨a5, a6, τ, a7, a8, a9, a10⟩, a11⟩ := H
  refine ⟨⟨(e 4 (by omega)).trans a1, a2, by rw [e85]; exact a3⟩, a4, ⟨(e 7 (by omega)).trans a5, (e 8 (by omega)).trans a6, τ, (e 9 (by omega)).trans a7, a8, ?_, a10⟩, a11⟩
  rw [e 10 (by omega)]
  exact a9
theorem RQ_of {x law : Nat} {P : List Nat} {w : CdL} {h h' : Nat → Nat → Int32} (H : RQ x law P w h) (e : ∀ j, j = 12 ∨ j = 13 ∨ j = 14 ∨ j = 16 ∨ j = 17 → h' 81 j = h 81 j) (e84 : h' 84 = h 84) (e86 : h' 86 = h 86) : RQ x law P w h' := by
  obtain ⟨a1, a2, a3, a4, a5, a6, a7, a8, a9, a10⟩ := H
  exact ⟨(e 12 (by omega)).trans a1, a2, (e 14 (by omega)).trans a3, a4, (e 13 (by omega)).trans a5, (e 16 (by omega)).trans a6, (e 17 (by omega)).trans a7, by rw [e86]; exact a8, by rw [e84]; exact a9, a10⟩
def Jv (i : Nat) (P : List Nat) (wh : Nat) (w : CdL) : Prop := opN P ≤ 8 ∧ P.length + wh ≤ w.length + opN P ∧ w.length + P.length ≤ i
theorem stl_J (l : Nat) (hl : 1 ≤ l) (P : List Nat) : ∀ (w : CdL) (i wh : Nat), Jv i P wh w → Jv i (stl l P w).1 wh (stl l P w).2 := by
  induction P with
  | nil => exact fun w i wh H => H
  | cons o P ih =>
    intro w i wh H
    show Jv i (if l ≤ rkN o then stl l P ((o, 0) :: w) else (o :: P, w)).1 wh (if l ≤ rkN o then stl l P ((o, 0) :: w) else (o :: P, w)).2
    by_cases c : l ≤ rkN o
    · rw [if_pos c]
      refine ih _ i wh ?_
      unfold Jv at H ⊢
      have l1 : (o :: P).length = P.length + 1 := rfl
      have l2 : ((o, 0) :: w).length = w.length + 1 := rfl
      have l3 : opN (o :: P) = opN P + (if isO o = true then 1 else 0) := rfl
      rw [l1, l3] at H
      rw [l2]
      split at H <;> omega
    · rw [if_neg c]
      exact H
/-- where the reference stands -/
def RCf (b : Nat → Nat) (k n x law : Nat) (c : Cfg) (h : Nat → Nat → Int32) (gl : Nat → Nat → Int64) : Prop := TS b k n c.1 h gl ∧ RQ x law c.2.1 c.2.2.2 h ∧ h 81 18 = bB c.2.2.1 ∧ Jv c.1 c.2.1 (if c.2.2.1 = true then 1 else 0) c.2.2.2
/-- what a step's answer says -/
def RZ (b : Nat → Nat) (k n x law : Nat) (h : Nat → Nat → Int32) (s : SRs) (v : Int32) (h' : Nat → Nat → Int32) (gl' : Nat → Nat → Int64) : Prop := FQ x h h' ∧ match s with
  | .inl c => v = nI 0 ∧ RCf b k n x law c h' gl'
  | .inr (.inr (c, j)) => v = nI c ∧ 1 ≤ c ∧ c ≤ 5 ∧ TS b k n j h' gl'
  | .inr (.inl _) => False
theorem RZ_pre {b : Nat → Nat} {k n x law : Nat} {h h1 h' : Nat → Nat → Int32} {gl' : Nat → Nat → Int64} {s : SRs} {v : Int32} (F : FQ x h h1) (H : RZ b k n x law h1 s v h' gl') : RZ b k n x law h s v h' gl' := ⟨FQ_trans F H.1, H.2⟩
section RE
variable {L t : Nat} {lt rt rp : Option Nat} {sw : Bool} {b : Nat → Nat} {k n x law i : Nat}
theorem r_nx {h : Nat → Nat → Int32} {gl : Nat → Nat → Int64} (H : TS b k n i h gl) (hi : i < n) : ∃ h' gl', avE 1 198 [.ref 81] (sX L t lt rt rp sw h gl) (none, sX L t lt rt rp sw h' gl') ∧ F81 h h' ∧ TS b k n (i + 1) h' gl' := by
  obtain ⟨a1, a2, a3, a4⟩ := H
  have lt1 := ((tk_lt b k (tP b k i)).2.2 (a2.2.1 i hi)).2
  obtain ⟨h', gl', C, F, T⟩ := r_next (L := L) (t := t) (lt := lt) (rt := rt) (rp := rp) (sw := sw) (gl := gl) a1 lt1 a3.1
  exact ⟨h', gl', C, F, RP_f a1 F, a2, T, hi⟩
theorem F81_FQ {h h' : Nat → Nat → Int32} (F : F81 h h') : FQ x h h' := ⟨fun o a _ _ => F.1 o (by simp; omega), fun j hj => F.2 j (by omega), fun q _ => by rw [F.1 84 rfl]⟩
theorem F81_RQ {P : List Nat} {w : CdL} {h h' : Nat → Nat → Int32} (H : RQ x law P w h) (F : F81 h h') : RQ x law P w h' := RQ_of H (fun j hj => F.2 j (by omega)) (F.1 84 rfl) (F.1 86 rfl)
theorem RQ_len {P : List Nat} {w : CdL} {h : Nat → Nat → Int32} (H : RQ x law P w h) : P.length ≤ 156 := H.2.2.2.2.2.2.2.2.2.2
theorem Jv_len {gl : Nat → Nat → Int64} {h : Nat → Nat → Int32} {P : List Nat} {w : CdL} {wh : Nat} (T : TS b k n i h gl) (J : Jv i P wh w) : P.length ≤ 154 ∧ P.length + w.length ≤ 300 := by
  obtain ⟨_, ⟨_, _, a, c⟩, _, d⟩ := T
  obtain ⟨j1, j2, j3⟩ := J
  omega
/-- put on the pile, and the next token -/
theorem r_push {h : Nat → Nat → Int32} {gl : Nat → Nat → Int64} {P : List Nat} {w : CdL} {o : Nat} (T : TS b k n i h gl) (Q : RQ x law P w h) (ho : o < 64) (hP : P.length + w.length + 1 ≤ 300) (hP2 : P.length ≤ 155) {h1 : Nat → Nat → Int32} (e81 : ∀ j, j ≠ 16 → j ≠ 17 → j ≠ 18 → h1 81 j = h 81 j) (e16 : h1 81 16 = nI (P.length + 1)) (e17 : h1 81 17 = nI (opN (o :: P))) (e86 : h1 86 = va_up (h 86) P.length (nI o)) (eo : ∀ p, p ≠ 81 → p ≠ 86 → h1 p = h p) : TS b k n i h1 gl ∧ RQ x law (o :: P) w h1 ∧ FQ x h h1 := by
  refine ⟨TS_of T (fun j hj => e81 j (by omega) (by omega) (by omega)) (eo 85 (by omega) (by omega)), ?_, ⟨fun p a _ c => eo p a c, fun j hj => e81 j (by omega) (by omega) (by omega), fun q _ => by rw [eo 84 (by omega) (by omega)]⟩⟩
  obtain ⟨a1, a2, a3, a4, a5, a6, a7, a8, a9, a10, a11⟩ := Q
  have ln : (o :: P).length = P.length + 1 := rfl
  refine ⟨(e81 12 (by omega) (by omega) (by omega)).trans a1, a2, (e81 14 (by omega) (by omega) (by omega)).trans a3, a4, (e81 13 (by omega) (by omega) (by omega)).trans a5, e16, e17, ⟨?_, ho, ?_⟩, ?_, by omega, by omega⟩
  · rw [e86]; exact va_up_self _ _ _
  · rw [e86]; exact sPl_up (Nat.le_refl _) a8
  · rw [eo 84 (by omega) (by omega)]; exact a9
theorem up_86 {h : Nat → Nat → Int32} {j q : Nat} {v u : Int32} : (mvPut (mvPut h 86 j v) 81 q u) 86 = va_up (h 86) j v := by
  funext p
  rw [put_o (by omega)]
  rw [put_at]
  by_cases c : p = j
  · subst c; rw [if_pos ⟨rfl, rfl⟩, va_up_self]
  · rw [if_neg (by omega), va_up_ne _ _ c]
theorem r_opened {h : Nat → Nat → Int32} {gl : Nat → Nat → Int64} {P : List Nat} {w : CdL} {o : Nat} (T : TS b k n i h gl) (Q : RQ x law P w h) (h18 : h 81 18 = bB false) (J : Jv i P 0 w) (ho : o < 64) (hO : isO o = true) (hi : i < n) : ∃ v h' gl', avE 2 232 [.ref 81, .int (nI o)] (sX L t lt rt rp sw h gl) (some (.int v), sX L t lt rt rp sw h' gl') ∧ RZ b k n x law h (opd o i P w) v h' gl' := by
  have a7 := Q.2.2.2.2.2.2.1
  have a6 := Q.2.2.2.2.2.1
  have jl := Jv_len T J
  have oN := opN_o (P := P) hO
  have inn := T.2.1.2.2
  obtain ⟨j1, j2, j3⟩ := id J
  by_cases c : opN P = 8
  · refine ⟨nI 3, h, gl, ?_, ?_⟩
    · show avA _ 232 0 [.ref 81, .int (nI (o))] [] _ _
      refine a_aload_0 rfl rfl ?_
      refine a_geti rfl rfl rfl (fun _ _ _ => rfl) ?_
      refine a_as (y := nI (opN P)) a7 ?_
      refine a_bipush (v := (nI 8)) rfl rfl rfl ?_
      refine a_cmpN_ne rfl rfl rfl (by omega) (by omega) (fun c_6 => False.elim (by omega)) (fun _ => ?_)
      refine a_iconst (v := (nI 3)) rfl rfl rfl ?_
      exact a_iret rfl rfl
    · rw [opd_8 c]
      exact ⟨FQ_refl, rfl, by decide, by decide, T⟩
  · have P1 := r_push (o := o) (h1 := mvPut (mvPut (mvPut h 81 17 (nI (opN P + 1))) 86 P.length (nI o)) 81 16 (nI (P.length + 1))) T Q ho (by omega) (by omega) (fun j g1 g2 g3 => (put_nj g1).trans ((put_o (by omega)).trans (put_nj g2))) put_eq ((put_nj (by omega)).trans ((put_o (by omega)).trans (put_eq.trans (congrArg nI oN.symm)))) (up_86.trans (by rw [put_ne (by omega : (86 : Nat) ≠ 81)])) (fun p g1 g2 => (put_ne g1).trans ((put_ne g2).trans (put_ne g1)))
    obtain ⟨T1, Q1, F1⟩ := P1
    obtain ⟨h2, gl2, C, F2, T2⟩ := r_nx (L := L) (t := t) (lt := lt) (rt := rt) (rp := rp) (sw := sw) T1 hi
    refine ⟨nI 0, h2, gl2, ?_, ?_⟩
    · show avA _ 232 0 [.ref 81, .int (nI (o))] [] _ _
      refine a_aload_0 rfl rfl ?_
      refine a_geti rfl rfl rfl (fun _ _ _ => rfl) ?_
      refine a_as (y := nI (opN P)) a7 ?_
      refine a_bipush (v := (nI 8)) rfl rfl rfl ?_
      refine a_cmpN_ne rfl rfl rfl (by omega) (by omega) (fun _ => ?_) (fun c_6 => False.elim (by omega))
      refine a_aload_0 rfl rfl ?_
      refine a_dup rfl rfl rfl ?_
      refine a_geti rfl rfl rfl (fun _ _ _ => rfl) ?_
      refine a_as (y := nI (opN P)) a7 ?_
      refine a_iconst (v := (nI 1)) rfl rfl rfl ?_
      refine a_iaddN rfl rfl ?_
      refine a_puti rfl rfl rfl rfl ?_
      refine a_aload_0 rfl rfl ?_
      refine a_getr rfl rfl rfl (fun _ _ _ => rfl) rfl ?_
      refine a_aload_0 rfl rfl ?_
      refine a_geti rfl rfl rfl (fun _ _ _ => rfl) ?_
      refine a_as (y := nI (P.length)) ((put_nj (by omega)).trans a6) ?_
      refine a_iload_1 rfl rfl ?_
      refine a_iast rfl rfl rfl rfl (by omega) (by decide) ?_
      refine a_aload_0 rfl rfl ?_
      refine a_dup rfl rfl rfl ?_
      refine a_geti rfl rfl rfl (fun _ _ _ => rfl) ?_
      refine a_as (y := nI (P.length)) ((put_o (by omega)).trans ((put_nj (by omega)).trans a6)) ?_
      refine a_iconst (v := (nI 1)) rfl rfl rfl ?_
      refine a_iaddN rfl rfl ?_
      refine a_puti rfl rfl rfl rfl ?_
      refine a_aload_0 rfl rfl ?_
      refine a_virt0 rfl rfl (C) (Nat.le_of_ble_eq_true rfl) ⟨rfl, rfl, rfl, rfl⟩ rfl rfl rfl (Nat.le_of_ble_eq_true rfl) rfl rfl ?_
      refine a_iconst (v := (nI 0)) rfl rfl rfl ?_
      exact a_iret rfl rfl
    · rw [opd_n c]
      refine ⟨FQ_trans F1 (F81_FQ F2), rfl, T2, F81_RQ Q1 F2, ?_, ?_⟩
      · exact (F2.2 18 (by omega)).trans ((put_nj (by omega)).trans ((put_o (by omega)).trans ((put_nj (by omega)).trans h18)))
      · show Jv (i + 1) (o :: P) 0 w
        have ln : (o :: P).length = P.length + 1 := rfl
        unfold Jv
        rw [oN, ln]
        omega
theorem r_endOne {h : Nat → Nat → Int32} {gl : Nat → Nat → Int64} {P : List Nat} {w : CdL} (T : TS b k n i h gl) (Q : RQ x law P w h) (J : Jv i P 1 w) : ∃ v h' gl', avE 3 228 [.ref 81] (sX L t lt rt rp sw h gl) (some (.int v), sX L t lt rt rp sw h' gl') ∧ RZ b k n x law h (eO (cdT b k) i P w) v h' gl' := by
  obtain ⟨h1, C1, Q1, F1, K1⟩ := r_settle (L := L) (t := t) (lt := lt) (rt := rt) (rp := rp) (sw := sw) (gl := gl) (l := 7) (by decide) (by decide) P w h Q
  have J1 := stl_J 7 (by decide) P w i 1 J
  have T1 : TS b k n i h1 gl := TS_of T (fun j hj => K1 j (by omega) (by omega) (by omega)) (F1.1 85 (by omega) (by omega) (by omega))
  unfold eO
  generalize stl 7 P w = s at Q1 J1 ⊢
  obtain ⟨P1, w1⟩ := s
  have T2 : TS b k n i (mvPut h1 81 18 (nI 1)) gl := TS_of T1 (fun j hj => put_nj (by omega)) (put_ne (by omega))
  have Q2 : RQ x law P1 w1 (mvPut h1 81 18 (nI 1)) := RQ_of Q1 (fun j hj => put_nj (by omega)) (put_ne (by omega)) (put_ne (by omega))
  have F2 : FQ x h (mvPut h1 81 18 (nI 1)) := FQ_trans F1 (FQ_put (by omega))
  have a6 := Q2.2.2.2.2.2.1
  have jl := Jv_len T1 J1
  match P1, Q1, J1, Q2, a6, jl with
  | [], Q1, J1, Q2, a6, jl =>
    refine ⟨nI 0, mvPut h1 81 18 (nI 1), gl, ?_, ?_⟩
    rotate_left
    · exact ⟨F2, rfl, T2, Q2, put_eq, J1⟩
    · show avA _ 228 0 [.ref 81] [] _ _
      refine a_aload_0 rfl rfl ?_
      refine a_bipush (v := (nI 7)) rfl rfl rfl ?_
      refine a_virt0 rfl rfl (C1) (Nat.le_of_ble_eq_true rfl) ⟨rfl, rfl, rfl, rfl⟩ rfl rfl rfl (Nat.le_of_ble_eq_true rfl) rfl rfl ?_
      refine a_aload_0 rfl rfl ?_
      refine a_iconst (v := (nI 1)) rfl rfl rfl ?_
      refine a_putz rfl rfl rfl rfl (Or.inr rfl) ?_
      refine a_aload_0 rfl rfl ?_
      refine a_geti rfl rfl rfl (fun _ _ _ => rfl) ?_
      refine a_as (y := nI (0)) a6 ?_
      refine a_ifN_eq rfl rfl rfl (by omega) (fun _ => ?_) (fun c_15 => False.elim (by omega))
      refine a_iconst (v := (nI 0)) rfl rfl rfl ?_
      exact a_iret rfl rfl
  | o :: P2, Q1, J1, Q2, a6, jl =>
    have ln : (o :: P2).length = P2.length + 1 := rfl
    rw [ln] at a6 jl
    obtain ⟨p1, p2, p3⟩ := Q2.2.2.2.2.2.2.2.1
    show ∃ v h' gl', avE 3 228 [.ref 81] (sX L t lt rt rp sw h gl) (some (.int v), sX L t lt rt rp sw h' gl') ∧ RZ b k n x law h (if o = 41 then (if cdT b k i = 22 then .inl (i + 1, 4 :: P2, false, w1) else sBad 1 i) else .inl (i, o :: P2, true, w1)) v h' gl'
    by_cases c : o = 41
    · subst c
      rw [if_pos rfl]
      obtain ⟨τ, W⟩ := rTk_W T2.2.2.1
      by_cases c2 : cdT b k i = 22
      · rw [if_pos c2]
        have hi := NT_lt T.2.1 T.2.2.2 (by omega)
        obtain ⟨h3, gl3, C3, F3, T3⟩ := r_nx (L := L) (t := t) (lt := lt) (rt := rt) (rp := rp) (sw := sw) T2 hi
        have Q3 := F81_RQ Q2 F3
        obtain ⟨b1, b2, b3, b4, b5, b6, b7, b8, b9, b10, b11⟩ := id Q3
        rw [ln] at b6
        have Q4 : RQ x law (4 :: P2) w1 (mvPut (mvPut h3 86 P2.length (nI 4)) 81 18 (nI 0)) := by
          refine ⟨(put_nj (by omega)).trans ((put_o (by omega)).trans b1), b2, (put_nj (by omega)).trans ((put_o (by omega)).trans b3), b4, (put_nj (by omega)).trans ((put_o (by omega)).trans b5), (put_nj (by omega)).trans ((put_o (by omega)).trans b6), (put_nj (by omega)).trans ((put_o (by omega)).trans b7), ⟨?_, by decide, ?_⟩, ?_, b10, b11⟩
          · rw [up_86]; exact va_up_self _ _ _
          · rw [up_86]; exact sPl_up (Nat.le_refl _) b8.2.2
          · rw [show (mvPut (mvPut h3 86 P2.length (nI 4)) 81 18 (nI 0)) 84 = h3 84 from (put_ne (by omega)).trans (put_ne (by omega))]; exact b9
        have T4 : TS b k n (i + 1) (mvPut (mvPut h3 86 P2.length (nI 4)) 81 18 (nI 0)) gl3 := TS_of T3 (fun j hj => (put_nj (by omega)).trans (put_o (by omega))) ((put_ne (by omega)).trans (put_ne (by omega)))
        refine ⟨nI 0, mvPut (mvPut h3 86 P2.length (nI 4)) 81 18 (nI 0), gl3, ?_, ?_⟩
        rotate_left
        · exact ⟨FQ_trans F2 (FQ_trans (F81_FQ F3) (FQ_trans (FQ_put (by omega)) (FQ_put (by omega)))), rfl, T4, Q4, put_eq, by
            have J1' : Jv i (41 :: P2) 1 w1 := J1
            show Jv (i + 1) (4 :: P2) 0 w1
            have ln4 : (4 :: P2).length = P2.length + 1 := rfl
            unfold Jv at J1' ⊢
            rw [opN_o (by decide), ln] at J1'
            rw [opN_o (by decide), ln4]
            omega⟩
        · show avA _ 228 0 [.ref 81] [] _ _
          refine a_aload_0 rfl rfl ?_
          refine a_bipush (v := (nI 7)) rfl rfl rfl ?_
          refine a_virt0 rfl rfl (C1) (Nat.le_of_ble_eq_true rfl) ⟨rfl, rfl, rfl, rfl⟩ rfl rfl rfl (Nat.le_of_ble_eq_true rfl) rfl rfl ?_
          refine a_aload_0 rfl rfl ?_
          refine a_iconst (v := (nI 1)) rfl rfl rfl ?_
          refine a_putz rfl rfl rfl rfl (Or.inr rfl) ?_
          refine a_aload_0 rfl rfl ?_
          refine a_geti rfl rfl rfl (fun _ _ _ => rfl) ?_
          refine a_as (y := nI (P2.length + 1)) a6 ?_
          refine a_ifN_eq rfl rfl rfl (by omega) (fun c_15 => False.elim (by omega)) (fun _ => ?_)
          refine a_aload_0 rfl rfl ?_
          refine a_getr rfl rfl rfl (fun _ _ _ => rfl) rfl ?_
          refine a_aload_0 rfl rfl ?_
          refine a_geti rfl rfl rfl (fun _ _ _ => rfl) ?_
          refine a_as (y := nI (P2.length + 1)) a6 ?_
          refine a_iconst (v := (nI 1)) rfl rfl rfl ?_
          refine a_isubN rfl rfl (by omega) ?_
          refine a_as (y := nI (P2.length)) (congrArg nI (by omega)) ?_
          refine a_iald rfl rfl (Or.inl rfl) rfl (by omega) (by decide) ?_
          refine a_as (y := nI (41)) p1 ?_
          refine a_bipush (v := (nI 41)) rfl rfl rfl ?_
          refine a_cmpN_eq rfl rfl rfl (by omega) (by omega) (fun _ => ?_) (fun c_31 => False.elim (by omega))
          refine a_aload_0 rfl rfl ?_
          refine a_bipush (v := (nI 119)) rfl rfl rfl ?_
          refine a_bipush (v := (nI 105)) rfl rfl rfl ?_
          refine a_bipush (v := (nI 116)) rfl rfl rfl ?_
          refine a_bipush (v := (nI 104)) rfl rfl rfl ?_
          refine a_statL rfl rfl (r_w4 119 105 116 104 (by decide) (by decide) (by decide) (by decide)) (Nat.le_of_ble_eq_true rfl) ⟨rfl, rfl, rfl⟩ rfl rfl rfl (Nat.le_of_ble_eq_true rfl) rfl ?_
          refine a_asL (y := lN (wW 22)) rfl ?_
          refine a_virtI rfl rfl (r_isWord W 22 (by decide)) (Nat.le_of_ble_eq_true rfl) ⟨rfl, rfl, rfl, rfl⟩ rfl rfl rfl (Nat.le_of_ble_eq_true rfl) rfl rfl ?_
          refine a_ifb_ne rfl rfl rfl (fun _ => ?_) (fun c_51 => by first | exact absurd c2 c_51 | exact absurd c_51 c2)
          refine a_aload_0 rfl rfl ?_
          refine a_virt0 rfl rfl (C3) (Nat.le_of_ble_eq_true rfl) ⟨rfl, rfl, rfl, rfl⟩ rfl rfl rfl (Nat.le_of_ble_eq_true rfl) rfl rfl ?_
          refine a_aload_0 rfl rfl ?_
          refine a_getr rfl rfl rfl (fun _ _ _ => rfl) rfl ?_
          refine a_aload_0 rfl rfl ?_
          refine a_geti rfl rfl rfl (fun _ _ _ => rfl) ?_
          refine a_as (y := nI (P2.length + 1)) b6 ?_
          refine a_iconst (v := (nI 1)) rfl rfl rfl ?_
          refine a_isubN rfl rfl (by omega) ?_
          refine a_as (y := nI (P2.length)) (congrArg nI (by omega)) ?_
          refine a_iconst (v := (nI 4)) rfl rfl rfl ?_
          refine a_iast rfl rfl rfl rfl (by omega) (by decide) ?_
          refine a_aload_0 rfl rfl ?_
          refine a_iconst (v := (nI 0)) rfl rfl rfl ?_
          refine a_putz rfl rfl rfl rfl (Or.inl rfl) ?_
          refine a_iconst (v := (nI 0)) rfl rfl rfl ?_
          exact a_iret rfl rfl
      · rw [if_neg c2]
        refine ⟨nI 1, mvPut h1 81 18 (nI 1), gl, ?_, ?_⟩
        rotate_left
        · exact ⟨F2, rfl, by decide, by decide, T2⟩
        · show avA _ 228 0 [.ref 81] [] _ _
          refine a_aload_0 rfl rfl ?_
          refine a_bipush (v := (nI 7)) rfl rfl rfl ?_
          refine a_virt0 rfl rfl (C1) (Nat.le_of_ble_eq_true rfl) ⟨rfl, rfl, rfl, rfl⟩ rfl rfl rfl (Nat.le_of_ble_eq_true rfl) rfl rfl ?_
          refine a_aload_0 rfl rfl ?_
          refine a_iconst (v := (nI 1)) rfl rfl rfl ?_
          refine a_putz rfl rfl rfl rfl (Or.inr rfl) ?_
          refine a_aload_0 rfl rfl ?_
          refine a_geti rfl rfl rfl (fun _ _ _ => rfl) ?_
          refine a_as (y := nI (P2.length + 1)) a6 ?_
          refine a_ifN_eq rfl rfl rfl (by omega) (fun c_15 => False.elim (by omega)) (fun _ => ?_)
          refine a_aload_0 rfl rfl ?_
          refine a_getr rfl rfl rfl (fun _ _ _ => rfl) rfl ?_
          refine a_aload_0 rfl rfl ?_
          refine a_geti rfl rfl rfl (fun _ _ _ => rfl) ?_
          refine a_as (y := nI (P2.length + 1)) a6 ?_
          refine a_iconst (v := (nI 1)) rfl rfl rfl ?_
          refine a_isubN rfl rfl (by omega) ?_
          refine a_as (y := nI (P2.length)) (congrArg nI (by omega)) ?_
          refine a_iald rfl rfl (Or.inl rfl) rfl (by omega) (by decide) ?_
          refine a_as (y := nI (41)) p1 ?_
          refine a_bipush (v := (nI 41)) rfl rfl rfl ?_
          refine a_cmpN_eq rfl rfl rfl (by omega) (by omega) (fun _ => ?_) (fun c_31 => False.elim (by omega))
          refine a_aload_0 rfl rfl ?_
          refine a_bipush (v := (nI 119)) rfl rfl rfl ?_
          refine a_bipush (v := (nI 105)) rfl rfl rfl ?_
          refine a_bipush (v := (nI 116)) rfl rfl rfl ?_
          refine a_bipush (v := (nI 104)) rfl rfl rfl ?_
          refine a_statL rfl rfl (r_w4 119 105 116 104 (by decide) (by decide) (by decide) (by decide)) (Nat.le_of_ble_eq_true rfl) ⟨rfl, rfl, rfl⟩ rfl rfl rfl (Nat.le_of_ble_eq_true rfl) rfl ?_
          refine a_asL (y := lN (wW 22)) rfl ?_
          refine a_virtI rfl rfl (r_isWord W 22 (by decide)) (Nat.le_of_ble_eq_true rfl) ⟨rfl, rfl, rfl, rfl⟩ rfl rfl rfl (Nat.le_of_ble_eq_true rfl) rfl rfl ?_
          refine a_ifb_ne rfl rfl rfl (fun c_51 => by first | exact absurd c_51 c2 | exact absurd c2 c_51) (fun _ => ?_)
          refine a_iconst (v := (nI 1)) rfl rfl rfl ?_
          exact a_iret rfl rfl
    · rw [if_neg c]
      refine ⟨nI 0, mvPut h1 81 18 (nI 1), gl, ?_, ?_⟩
      rotate_left
      · exact ⟨F2, rfl, T2, Q2, put_eq, J1⟩
      · show avA _ 228 0 [.ref 81] [] _ _
        refine a_aload_0 rfl rfl ?_
        refine a_bipush (v := (nI 7)) rfl rfl rfl ?_
        refine a_virt0 rfl rfl (C1) (Nat.le_of_ble_eq_true rfl) ⟨rfl, rfl, rfl, rfl⟩ rfl rfl rfl (Nat.le_of_ble_eq_true rfl) rfl rfl ?_
        refine a_aload_0 rfl rfl ?_
        refine a_iconst (v := (nI 1)) rfl rfl rfl ?_
        refine a_putz rfl rfl rfl rfl (Or.inr rfl) ?_
        refine a_aload_0 rfl rfl ?_
        refine a_geti rfl rfl rfl (fun _ _ _ => rfl) ?_
        refine a_as (y := nI (P2.length + 1)) a6 ?_
        refine a_ifN_eq rfl rfl rfl (by omega) (fun c_15 => False.elim (by omega)) (fun _ => ?_)
        refine a_aload_0 rfl rfl ?_
        refine a_getr rfl rfl rfl (fun _ _ _ => rfl) rfl ?_
        refine a_aload_0 rfl rfl ?_
        refine a_geti rfl rfl rfl (fun _ _ _ => rfl) ?_
        refine a_as (y := nI (P2.length + 1)) a6 ?_
        refine a_iconst (v := (nI 1)) rfl rfl rfl ?_
        refine a_isubN rfl rfl (by omega) ?_
        refine a_as (y := nI (P2.length)) (congrArg nI (by omega)) ?_
        refine a_iald rfl rfl (Or.inl rfl) rfl (by omega) (by decide) ?_
        refine a_as (y := nI (o)) p1 ?_
        refine a_bipush (v := (nI 41)) rfl rfl rfl ?_
        refine a_cmpN_eq rfl rfl rfl (by omega) (by omega) (fun c_31 => False.elim (by omega)) (fun _ => ?_)
        refine a_iconst (v := (nI 0)) rfl rfl rfl ?_
        exact a_iret rfl rfl
end RE
