/-! THE REFERENCE'S PARSER: beginning, between, parts, behind, a whole sum -/
section RB
variable {L t : Nat} {lt rt rp : Option Nat} {sw : Bool} {b : Nat → Nat} {k n x law i : Nat}
theorem Jv_1 {P : List Nat} {w : CdL} {y : Nat × Nat} (J : Jv i P 0 w) : Jv (i + 1) P 1 (y :: w) := by
  have l : (y :: w).length = w.length + 1 := rfl
  unfold Jv at J ⊢
  rw [l]
  omega
theorem bB_f : bB false = nI 0 := rfl
theorem bB_t : bB true = nI 1 := rfl
theorem r_beginOne {h : Nat → Nat → Int32} {gl : Nat → Nat → Int64} {P : List Nat} {w : CdL} (T : TS b k n i h gl) (Q : RQ x law P w h) (h18 : h 81 18 = bB false) (J : Jv i P 0 w) : ∃ v h' gl', avE 6 229 [.ref 81] (sX L t lt rt rp sw h gl) (some (.int v), sX L t lt rt rp sw h' gl') ∧ RZ b k n x law h (bO law (cdT b k) (nmT b k) i P w) v h' gl' := by
  obtain ⟨τ, W⟩ := rTk_W T.2.2.1
  have W' : tW (cdT b k i) h gl τ := W
  obtain ⟨w1, w2, w3, w4⟩ := id W'
  have tf := TR_iff w3
  have jl := Jv_len T J
  obtain ⟨a1, a2, a3, a4, a5, a6, a7, a8, a9, a10, a11⟩ := id Q
  obtain ⟨j1, j2, j3⟩ := id J
  have inn := T.2.1.2.2
  have cl : cdT b k i < 48 := (tk_lt b k (tP b k i)).1
  have N := r_nameOf (L := L) (t := t) (lt := lt) (rt := rt) (rp := rp) (sw := sw) W'
  unfold bO
  by_cases q1 : cdT b k i = 45
  · rw [if_pos q1]
    have t1 : τ = 1 := tf.1.mpr q1
    have hn := NT_lt T.2.1 T.2.2.2 (by omega)
    obtain ⟨_, _, τ', r1, _, r3, _⟩ := T.2.2.1
    obtain ⟨r, n1, n2, n3⟩ := r3 (by have := r1.symm.trans w1; have z := (nI_eq (by have := TR_iff (by assumption); omega) (by omega)).mp this; omega)
    have n3' : min r 10000 = nmT b k i := n3
    have nv : nmV (cdT b k i) = -1 := by unfold nmV; rw [if_neg (by omega)]
    rw [nv] at N
    by_cases q2 : 9999 < nmT b k i
    · rw [if_pos q2]
      refine ⟨nI 2, h, gl, ?_, FQ_refl, rfl, by decide, by decide, T⟩
      show avA _ 229 0 [.ref 81, mvU] [] _ _
      refine a_aload_0 rfl rfl ?_
      refine a_geti rfl rfl rfl (fun _ _ _ => rfl) ?_
      refine a_as (y := nI (τ)) w1 ?_
      refine a_iconst (v := (nI 1)) rfl rfl rfl ?_
      refine a_cmpN_ne rfl rfl rfl (by omega) (by omega) (fun c_5 => False.elim (by omega)) (fun _ => ?_)
      refine a_aload_0 rfl rfl ?_
      refine a_geti rfl rfl rfl (fun _ _ _ => rfl) ?_
      refine a_as (y := nI (r)) n1 ?_
      refine a_sipush (v := (nI 9999)) rfl rfl rfl ?_
      refine a_cmpN_le rfl rfl rfl (by omega) (by omega) (fun c_15 => False.elim (by omega)) (fun _ => ?_)
      refine a_iconst (v := (nI 2)) rfl rfl rfl ?_
      exact a_iret rfl rfl
    · rw [if_neg q2]
      have er : r = nmT b k i := by omega
      rw [er] at n1
      obtain ⟨Q2, F2, k2⟩ := em_RQ (o := 0) (v := nmT b k i) Q (by omega)
      have T2 : TS b k n i (emS x w 0 (nmT b k i) h) gl := TS_of T (fun j hj => k2 j (by omega)) (F2.1 85 (by omega) (by omega) (by omega))
      obtain ⟨h3, gl3, C3, F3, T3⟩ := r_nx (L := L) (t := t) (lt := lt) (rt := rt) (rp := rp) (sw := sw) T2 hn
      obtain ⟨v, h4, gl4, C4, R4⟩ := r_endOne (L := L) (t := t) (lt := lt) (rt := rt) (rp := rp) (sw := sw) T3 (F81_RQ Q2 F3) (Jv_1 J)
      refine ⟨v, h4, gl4, ?_, RZ_pre (FQ_trans F2 (F81_FQ F3)) R4⟩
      show avA _ 229 0 [.ref 81, mvU] [] _ _
      refine a_aload_0 rfl rfl ?_
      refine a_geti rfl rfl rfl (fun _ _ _ => rfl) ?_
      refine a_as (y := nI (τ)) w1 ?_
      refine a_iconst (v := (nI 1)) rfl rfl rfl ?_
      refine a_cmpN_ne rfl rfl rfl (by omega) (by omega) (fun c_5 => False.elim (by omega)) (fun _ => ?_)
      refine a_aload_0 rfl rfl ?_
      refine a_geti rfl rfl rfl (fun _ _ _ => rfl) ?_
      refine a_as (y := nI (nmT b k i)) n1 ?_
      refine a_sipush (v := (nI 9999)) rfl rfl rfl ?_
      refine a_cmpN_le rfl rfl rfl (by omega) (by omega) (fun _ => ?_) (fun c_15 => False.elim (by omega))
      refine a_aload_0 rfl rfl ?_
      refine a_virtI rfl rfl (N) (Nat.le_of_ble_eq_true rfl) ⟨rfl, rfl, rfl, rfl⟩ rfl rfl rfl (Nat.le_of_ble_eq_true rfl) rfl rfl ?_
      refine a_istore_1 rfl rfl rfl ?_
      refine a_iload_1 rfl rfl ?_
      refine a_ifI_lt rfl rfl rfl (iI_toInt (by omega) (by omega)) (fun _ => ?_) (fun c_26 => False.elim (by omega))
      refine a_aload_0 rfl rfl ?_
      refine a_geti rfl rfl rfl (fun _ _ _ => rfl) ?_
      refine a_as (y := nI (τ)) w1 ?_
      refine a_iconst (v := (nI 1)) rfl rfl rfl ?_
      refine a_cmpN_eq rfl rfl rfl (by omega) (by omega) (fun _ => ?_) (fun c_44 => False.elim (by omega))
      refine a_aload_0 rfl rfl ?_
      refine a_aload_0 rfl rfl ?_
      refine a_geti rfl rfl rfl (fun _ _ _ => rfl) ?_
      refine a_as (y := nI (τ)) w1 ?_
      refine a_iconst (v := (nI 1)) rfl rfl rfl ?_
      refine a_cmpN_ne rfl rfl rfl (by omega) (by omega) (fun c_57 => False.elim (by omega)) (fun _ => ?_)
      refine a_iconst (v := (nI 0)) rfl rfl rfl ?_
      refine a_goto rfl rfl ?_
      refine a_aload_0 rfl rfl ?_
      refine a_geti rfl rfl rfl (fun _ _ _ => rfl) ?_
      refine a_as (y := nI (τ)) w1 ?_
      refine a_iconst (v := (nI 1)) rfl rfl rfl ?_
      refine a_cmpN_ne rfl rfl rfl (by omega) (by omega) (fun c_70 => False.elim (by omega)) (fun _ => ?_)
      refine a_aload_0 rfl rfl ?_
      refine a_geti rfl rfl rfl (fun _ _ _ => rfl) ?_
      refine a_as (y := nI (nmT b k i)) n1 ?_
      refine a_goto rfl rfl ?_
      refine a_virt0 rfl rfl (r_emit 0 _ a1 a2 a5 (by omega)) (Nat.le_of_ble_eq_true rfl) ⟨rfl, rfl, rfl, rfl⟩ rfl rfl rfl (Nat.le_of_ble_eq_true rfl) rfl rfl ?_
      refine a_aload_0 rfl rfl ?_
      refine a_virt0 rfl rfl (C3) (Nat.le_of_ble_eq_true rfl) ⟨rfl, rfl, rfl, rfl⟩ rfl rfl rfl (Nat.le_of_ble_eq_true rfl) rfl rfl ?_
      refine a_aload_0 rfl rfl ?_
      refine a_virtI rfl rfl (C4) (Nat.le_of_ble_eq_true rfl) ⟨rfl, rfl, rfl, rfl⟩ rfl rfl rfl (Nat.le_of_ble_eq_true rfl) rfl rfl ?_
      exact a_iret rfl rfl
  rw [if_neg q1]
  have t1 : τ ≠ 1 := fun z => q1 (tf.1.mp z)
  by_cases q2 : cdT b k i < 11
  · rw [if_pos q2]
    have t2 : τ = 2 := tf.2.2.1 (by omega)
    have hn := NT_lt T.2.1 T.2.2.2 (by omega)
    have nv : nmV (cdT b k i) = (cdT b k i : Int) := by unfold nmV; rw [if_pos q2]
    rw [nv, iI_nat] at N
    have IO := r_isOf (L := L) (t := t) (lt := lt) (rt := rt) (rp := rp) (sw := sw) (gl := gl) law (cdT b k i) a4 q2 a3
    by_cases q3 : nmOk law (cdT b k i) = true
    · rw [if_pos q3]
      obtain ⟨Q2, F2, k2⟩ := em_RQ (o := 1) (v := cdT b k i) Q (by omega)
      have T2 : TS b k n i (emS x w 1 (cdT b k i) h) gl := TS_of T (fun j hj => k2 j (by omega)) (F2.1 85 (by omega) (by omega) (by omega))
      obtain ⟨h3, gl3, C3, F3, T3⟩ := r_nx (L := L) (t := t) (lt := lt) (rt := rt) (rp := rp) (sw := sw) T2 hn
      obtain ⟨v, h4, gl4, C4, R4⟩ := r_endOne (L := L) (t := t) (lt := lt) (rt := rt) (rp := rp) (sw := sw) T3 (F81_RQ Q2 F3) (Jv_1 J)
      refine ⟨v, h4, gl4, ?_, RZ_pre (FQ_trans F2 (F81_FQ F3)) R4⟩
      show avA _ 229 0 [.ref 81, mvU] [] _ _
      refine a_aload_0 rfl rfl ?_
      refine a_geti rfl rfl rfl (fun _ _ _ => rfl) ?_
      refine a_as (y := nI (τ)) w1 ?_
      refine a_iconst (v := (nI 1)) rfl rfl rfl ?_
      refine a_cmpN_ne rfl rfl rfl (by omega) (by omega) (fun _ => ?_) (fun c_5 => False.elim (by omega))
      refine a_aload_0 rfl rfl ?_
      refine a_virtI rfl rfl (N) (Nat.le_of_ble_eq_true rfl) ⟨rfl, rfl, rfl, rfl⟩ rfl rfl rfl (Nat.le_of_ble_eq_true rfl) rfl rfl ?_
      refine a_istore_1 rfl rfl rfl ?_
      refine a_iload_1 rfl rfl ?_
      refine a_ifN_lt rfl rfl rfl (by omega) (fun c_26 => False.elim (c_26)) (fun _ => ?_)
      refine a_aload_0 rfl rfl ?_
      refine a_iload_1 rfl rfl ?_
      refine a_virtI rfl rfl (IO) (Nat.le_of_ble_eq_true rfl) ⟨rfl, rfl, rfl, rfl⟩ rfl rfl rfl (Nat.le_of_ble_eq_true rfl) rfl rfl ?_
      refine a_ifb_ne rfl rfl rfl (fun _ => ?_) (fun c_34 => by first | exact absurd q3 c_34 | exact absurd c_34 q3)
      refine a_aload_0 rfl rfl ?_
      refine a_geti rfl rfl rfl (fun _ _ _ => rfl) ?_
      refine a_as (y := nI (τ)) w1 ?_
      refine a_iconst (v := (nI 1)) rfl rfl rfl ?_
      refine a_cmpN_eq rfl rfl rfl (by omega) (by omega) (fun c_44 => False.elim (by omega)) (fun _ => ?_)
      refine a_iload_1 rfl rfl ?_
      refine a_ifN_lt rfl rfl rfl (by omega) (fun c_48 => False.elim (c_48)) (fun _ => ?_)
      refine a_aload_0 rfl rfl ?_
      refine a_aload_0 rfl rfl ?_
      refine a_geti rfl rfl rfl (fun _ _ _ => rfl) ?_
      refine a_as (y := nI (τ)) w1 ?_
      refine a_iconst (v := (nI 1)) rfl rfl rfl ?_
      refine a_cmpN_ne rfl rfl rfl (by omega) (by omega) (fun _ => ?_) (fun c_57 => False.elim (by omega))
      refine a_iconst (v := (nI 1)) rfl rfl rfl ?_
      refine a_aload_0 rfl rfl ?_
      refine a_geti rfl rfl rfl (fun _ _ _ => rfl) ?_
      refine a_as (y := nI (τ)) w1 ?_
      refine a_iconst (v := (nI 1)) rfl rfl rfl ?_
      refine a_cmpN_ne rfl rfl rfl (by omega) (by omega) (fun _ => ?_) (fun c_70 => False.elim (by omega))
      refine a_iload_1 rfl rfl ?_
      refine a_virt0 rfl rfl (r_emit 1 _ a1 a2 a5 (by omega)) (Nat.le_of_ble_eq_true rfl) ⟨rfl, rfl, rfl, rfl⟩ rfl rfl rfl (Nat.le_of_ble_eq_true rfl) rfl rfl ?_
      refine a_aload_0 rfl rfl ?_
      refine a_virt0 rfl rfl (C3) (Nat.le_of_ble_eq_true rfl) ⟨rfl, rfl, rfl, rfl⟩ rfl rfl rfl (Nat.le_of_ble_eq_true rfl) rfl rfl ?_
      refine a_aload_0 rfl rfl ?_
      refine a_virtI rfl rfl (C4) (Nat.le_of_ble_eq_true rfl) ⟨rfl, rfl, rfl, rfl⟩ rfl rfl rfl (Nat.le_of_ble_eq_true rfl) rfl rfl ?_
      exact a_iret rfl rfl
    · rw [if_neg q3]
      refine ⟨nI 5, h, gl, ?_, FQ_refl, rfl, by decide, by decide, T⟩
      show avA _ 229 0 [.ref 81, mvU] [] _ _
      refine a_aload_0 rfl rfl ?_
      refine a_geti rfl rfl rfl (fun _ _ _ => rfl) ?_
      refine a_as (y := nI (τ)) w1 ?_
      refine a_iconst (v := (nI 1)) rfl rfl rfl ?_
      refine a_cmpN_ne rfl rfl rfl (by omega) (by omega) (fun _ => ?_) (fun c_5 => False.elim (by omega))
      refine a_aload_0 rfl rfl ?_
      refine a_virtI rfl rfl (N) (Nat.le_of_ble_eq_true rfl) ⟨rfl, rfl, rfl, rfl⟩ rfl rfl rfl (Nat.le_of_ble_eq_true rfl) rfl rfl ?_
      refine a_istore_1 rfl rfl rfl ?_
      refine a_iload_1 rfl rfl ?_
      refine a_ifN_lt rfl rfl rfl (by omega) (fun c_26 => False.elim (c_26)) (fun _ => ?_)
      refine a_aload_0 rfl rfl ?_
      refine a_iload_1 rfl rfl ?_
      refine a_virtI rfl rfl (IO) (Nat.le_of_ble_eq_true rfl) ⟨rfl, rfl, rfl, rfl⟩ rfl rfl rfl (Nat.le_of_ble_eq_true rfl) rfl rfl ?_
      refine a_ifb_ne rfl rfl rfl (fun c_34 => by first | exact absurd c_34 q3 | exact absurd q3 c_34) (fun _ => ?_)
      refine a_iconst (v := (nI 5)) rfl rfl rfl ?_
      exact a_iret rfl rfl
  rw [if_neg q2]
  have nv : nmV (cdT b k i) = -1 := by unfold nmV; rw [if_neg q2]
  rw [nv] at N
  have S21 := r_isWord (L := L) (t := t) (lt := lt) (rt := rt) (rp := rp) (sw := sw) W' 21 (by decide)
  have S23 := r_isWord (L := L) (t := t) (lt := lt) (rt := rt) (rp := rp) (sw := sw) W' 23 (by decide)
  have S24 := r_isWord (L := L) (t := t) (lt := lt) (rt := rt) (rp := rp) (sw := sw) W' 24 (by decide)
  have S30 := r_isWord (L := L) (t := t) (lt := lt) (rt := rt) (rp := rp) (sw := sw) W' 30 (by decide)
  have t40 := tf.2.2.2.1
  have t45 := tf.2.2.2.2.1
  clear tf w3 w4
  by_cases q3 : cdT b k i = 40
  · rw [if_pos q3]
    have hn := NT_lt T.2.1 T.2.2.2 (by omega)
    obtain ⟨v, h', gl', C, R⟩ := r_opened (L := L) (t := t) (lt := lt) (rt := rt) (rp := rp) (sw := sw) (o := 40) T Q h18 J (by decide) (by decide) hn
    refine ⟨v, h', gl', ?_, R⟩
    show avA _ 229 0 [.ref 81, mvU] [] _ _
    refine a_aload_0 rfl rfl ?_
    refine a_geti rfl rfl rfl (fun _ _ _ => rfl) ?_
    refine a_as (y := nI (τ)) w1 ?_
    refine a_iconst (v := (nI 1)) rfl rfl rfl ?_
    refine a_cmpN_ne rfl rfl rfl (by omega) (by omega) (fun _ => ?_) (fun c_5 => False.elim (by omega))
    refine a_aload_0 rfl rfl ?_
    refine a_virtI rfl rfl (N) (Nat.le_of_ble_eq_true rfl) ⟨rfl, rfl, rfl, rfl⟩ rfl rfl rfl (Nat.le_of_ble_eq_true rfl) rfl rfl ?_
    refine a_istore_1 rfl rfl rfl ?_
    refine a_iload_1 rfl rfl ?_
    refine a_ifI_lt rfl rfl rfl (iI_toInt (by omega) (by omega)) (fun _ => ?_) (fun c_26 => False.elim (by omega))
    refine a_aload_0 rfl rfl ?_
    refine a_geti rfl rfl rfl (fun _ _ _ => rfl) ?_
    refine a_as (y := nI (τ)) w1 ?_
    refine a_iconst (v := (nI 1)) rfl rfl rfl ?_
    refine a_cmpN_eq rfl rfl rfl (by omega) (by omega) (fun c_44 => False.elim (by omega)) (fun _ => ?_)
    refine a_iload_1 rfl rfl ?_
    refine a_ifI_lt rfl rfl rfl (iI_toInt (by omega) (by omega)) (fun _ => ?_) (fun c_48 => False.elim (by omega))
    refine a_aload_0 rfl rfl ?_
    refine a_geti rfl rfl rfl (fun _ _ _ => rfl) ?_
    refine a_as (y := nI (τ)) w1 ?_
    refine a_bipush (v := (nI 40)) rfl rfl rfl ?_
    refine a_cmpN_ne rfl rfl rfl (by omega) (by omega) (fun c_99 => False.elim (by omega)) (fun _ => ?_)
    refine a_aload_0 rfl rfl ?_
    refine a_bipush (v := (nI 40)) rfl rfl rfl ?_
    refine a_virtI rfl rfl (C) (Nat.le_of_ble_eq_true rfl) ⟨rfl, rfl, rfl, rfl⟩ rfl rfl rfl (Nat.le_of_ble_eq_true rfl) rfl rfl ?_
    exact a_iret rfl rfl
  rw [if_neg q3]
  by_cases q4 : cdT b k i = 37
  · rw [if_pos q4]
    have hn := NT_lt T.2.1 T.2.2.2 (by omega)
    obtain ⟨v, h', gl', C, R⟩ := r_opened (L := L) (t := t) (lt := lt) (rt := rt) (rp := rp) (sw := sw) (o := 5) T Q h18 J (by decide) (by decide) hn
    refine ⟨v, h', gl', ?_, R⟩
    show avA _ 229 0 [.ref 81, mvU] [] _ _
    refine a_aload_0 rfl rfl ?_
    refine a_geti rfl rfl rfl (fun _ _ _ => rfl) ?_
    refine a_as (y := nI (τ)) w1 ?_
    refine a_iconst (v := (nI 1)) rfl rfl rfl ?_
    refine a_cmpN_ne rfl rfl rfl (by omega) (by omega) (fun _ => ?_) (fun c_5 => False.elim (by omega))
    refine a_aload_0 rfl rfl ?_
    refine a_virtI rfl rfl (N) (Nat.le_of_ble_eq_true rfl) ⟨rfl, rfl, rfl, rfl⟩ rfl rfl rfl (Nat.le_of_ble_eq_true rfl) rfl rfl ?_
    refine a_istore_1 rfl rfl rfl ?_
    refine a_iload_1 rfl rfl ?_
    refine a_ifI_lt rfl rfl rfl (iI_toInt (by omega) (by omega)) (fun _ => ?_) (fun c_26 => False.elim (by omega))
    refine a_aload_0 rfl rfl ?_
    refine a_geti rfl rfl rfl (fun _ _ _ => rfl) ?_
    refine a_as (y := nI (τ)) w1 ?_
    refine a_iconst (v := (nI 1)) rfl rfl rfl ?_
    refine a_cmpN_eq rfl rfl rfl (by omega) (by omega) (fun c_44 => False.elim (by omega)) (fun _ => ?_)
    refine a_iload_1 rfl rfl ?_
    refine a_ifI_lt rfl rfl rfl (iI_toInt (by omega) (by omega)) (fun _ => ?_) (fun c_48 => False.elim (by omega))
    refine a_aload_0 rfl rfl ?_
    refine a_geti rfl rfl rfl (fun _ _ _ => rfl) ?_
    refine a_as (y := nI (τ)) w1 ?_
    refine a_bipush (v := (nI 40)) rfl rfl rfl ?_
    refine a_cmpN_ne rfl rfl rfl (by omega) (by omega) (fun _ => ?_) (fun c_99 => False.elim (by omega))
    refine a_aload_0 rfl rfl ?_
    refine a_geti rfl rfl rfl (fun _ _ _ => rfl) ?_
    refine a_as (y := nI (τ)) w1 ?_
    refine a_bipush (v := (nI 45)) rfl rfl rfl ?_
    refine a_cmpN_ne rfl rfl rfl (by omega) (by omega) (fun c_115 => False.elim (by omega)) (fun _ => ?_)
    refine a_aload_0 rfl rfl ?_
    refine a_iconst (v := (nI 5)) rfl rfl rfl ?_
    refine a_virtI rfl rfl (C) (Nat.le_of_ble_eq_true rfl) ⟨rfl, rfl, rfl, rfl⟩ rfl rfl rfl (Nat.le_of_ble_eq_true rfl) rfl rfl ?_
    exact a_iret rfl rfl
  rw [if_neg q4]
  have D21 : cdT b k i = 21 → ∃ v h' gl', avE 6 229 [.ref 81] (sX L t lt rt rp sw h gl) (some (.int v), sX L t lt rt rp sw h' gl') ∧ RZ b k n x law h (opd 41 i P w) v h' gl' := by
    intro q5
    have hn := NT_lt T.2.1 T.2.2.2 (by omega)
    obtain ⟨v, h', gl', C, R⟩ := r_opened (L := L) (t := t) (lt := lt) (rt := rt) (rp := rp) (sw := sw) (o := 41) T Q h18 J (by decide) (by decide) hn
    refine ⟨v, h', gl', ?_, R⟩
    show avA _ 229 0 [.ref 81, mvU] [] _ _
    refine a_aload_0 rfl rfl ?_
    refine a_geti rfl rfl rfl (fun _ _ _ => rfl) ?_
    refine a_as (y := nI (τ)) w1 ?_
    refine a_iconst (v := (nI 1)) rfl rfl rfl ?_
    refine a_cmpN_ne rfl rfl rfl (by omega) (by omega) (fun _ => ?_) (fun c_5 => False.elim (by omega))
    refine a_aload_0 rfl rfl ?_
    refine a_virtI rfl rfl (N) (Nat.le_of_ble_eq_true rfl) ⟨rfl, rfl, rfl, rfl⟩ rfl rfl rfl (Nat.le_of_ble_eq_true rfl) rfl rfl ?_
    refine a_istore_1 rfl rfl rfl ?_
    refine a_iload_1 rfl rfl ?_
    refine a_ifI_lt rfl rfl rfl (iI_toInt (by omega) (by omega)) (fun _ => ?_) (fun c_26 => False.elim (by omega))
    refine a_aload_0 rfl rfl ?_
    refine a_geti rfl rfl rfl (fun _ _ _ => rfl) ?_
    refine a_as (y := nI (τ)) w1 ?_
    refine a_iconst (v := (nI 1)) rfl rfl rfl ?_
    refine a_cmpN_eq rfl rfl rfl (by omega) (by omega) (fun c_44 => False.elim (by omega)) (fun _ => ?_)
    refine a_iload_1 rfl rfl ?_
    refine a_ifI_lt rfl rfl rfl (iI_toInt (by omega) (by omega)) (fun _ => ?_) (fun c_48 => False.elim (by omega))
    refine a_aload_0 rfl rfl ?_
    refine a_geti rfl rfl rfl (fun _ _ _ => rfl) ?_
    refine a_as (y := nI (τ)) w1 ?_
    refine a_bipush (v := (nI 40)) rfl rfl rfl ?_
    refine a_cmpN_ne rfl rfl rfl (by omega) (by omega) (fun _ => ?_) (fun c_99 => False.elim (by omega))
    refine a_aload_0 rfl rfl ?_
    refine a_geti rfl rfl rfl (fun _ _ _ => rfl) ?_
    refine a_as (y := nI (τ)) w1 ?_
    refine a_bipush (v := (nI 45)) rfl rfl rfl ?_
    refine a_cmpN_ne rfl rfl rfl (by omega) (by omega) (fun _ => ?_) (fun c_115 => False.elim (by omega))
    refine a_aload_0 rfl rfl ?_
    refine a_bipush (v := (nI 109)) rfl rfl rfl ?_
    refine a_bipush (v := (nI 101)) rfl rfl rfl ?_
    refine a_bipush (v := (nI 97)) rfl rfl rfl ?_
    refine a_bipush (v := (nI 110)) rfl rfl rfl ?_
    refine a_statL rfl rfl (r_w4 109 101 97 110 (by decide) (by decide) (by decide) (by decide)) (Nat.le_of_ble_eq_true rfl) ⟨rfl, rfl, rfl⟩ rfl rfl rfl (Nat.le_of_ble_eq_true rfl) rfl ?_
    refine a_asL (y := lN (wW 21)) rfl ?_
    refine a_virtI rfl rfl (S21) (Nat.le_of_ble_eq_true rfl) ⟨rfl, rfl, rfl, rfl⟩ rfl rfl rfl (Nat.le_of_ble_eq_true rfl) rfl rfl ?_
    refine a_ifb_eq rfl rfl rfl (fun c_139 => False.elim (by omega)) (fun _ => ?_)
    refine a_aload_0 rfl rfl ?_
    refine a_bipush (v := (nI 41)) rfl rfl rfl ?_
    refine a_virtI rfl rfl (C) (Nat.le_of_ble_eq_true rfl) ⟨rfl, rfl, rfl, rfl⟩ rfl rfl rfl (Nat.le_of_ble_eq_true rfl) rfl rfl ?_
    exact a_iret rfl rfl
  have D24 : cdT b k i = 24 → ∃ v h' gl', avE 6 229 [.ref 81] (sX L t lt rt rp sw h gl) (some (.int v), sX L t lt rt rp sw h' gl') ∧ RZ b k n x law h (opd 42 i P w) v h' gl' := by
    intro q5
    have hn := NT_lt T.2.1 T.2.2.2 (by omega)
    obtain ⟨v, h', gl', C, R⟩ := r_opened (L := L) (t := t) (lt := lt) (rt := rt) (rp := rp) (sw := sw) (o := 42) T Q h18 J (by decide) (by decide) hn
    refine ⟨v, h', gl', ?_, R⟩
    show avA _ 229 0 [.ref 81, mvU] [] _ _
    refine a_aload_0 rfl rfl ?_
    refine a_geti rfl rfl rfl (fun _ _ _ => rfl) ?_
    refine a_as (y := nI (τ)) w1 ?_
    refine a_iconst (v := (nI 1)) rfl rfl rfl ?_
    refine a_cmpN_ne rfl rfl rfl (by omega) (by omega) (fun _ => ?_) (fun c_5 => False.elim (by omega))
    refine a_aload_0 rfl rfl ?_
    refine a_virtI rfl rfl (N) (Nat.le_of_ble_eq_true rfl) ⟨rfl, rfl, rfl, rfl⟩ rfl rfl rfl (Nat.le_of_ble_eq_true rfl) rfl rfl ?_
    refine a_istore_1 rfl rfl rfl ?_
    refine a_iload_1 rfl rfl ?_
    refine a_ifI_lt rfl rfl rfl (iI_toInt (by omega) (by omega)) (fun _ => ?_) (fun c_26 => False.elim (by omega))
    refine a_aload_0 rfl rfl ?_
    refine a_geti rfl rfl rfl (fun _ _ _ => rfl) ?_
    refine a_as (y := nI (τ)) w1 ?_
    refine a_iconst (v := (nI 1)) rfl rfl rfl ?_
    refine a_cmpN_eq rfl rfl rfl (by omega) (by omega) (fun c_44 => False.elim (by omega)) (fun _ => ?_)
    refine a_iload_1 rfl rfl ?_
    refine a_ifI_lt rfl rfl rfl (iI_toInt (by omega) (by omega)) (fun _ => ?_) (fun c_48 => False.elim (by omega))
    refine a_aload_0 rfl rfl ?_
    refine a_geti rfl rfl rfl (fun _ _ _ => rfl) ?_
    refine a_as (y := nI (τ)) w1 ?_
    refine a_bipush (v := (nI 40)) rfl rfl rfl ?_
    refine a_cmpN_ne rfl rfl rfl (by omega) (by omega) (fun _ => ?_) (fun c_99 => False.elim (by omega))
    refine a_aload_0 rfl rfl ?_
    refine a_geti rfl rfl rfl (fun _ _ _ => rfl) ?_
    refine a_as (y := nI (τ)) w1 ?_
    refine a_bipush (v := (nI 45)) rfl rfl rfl ?_
    refine a_cmpN_ne rfl rfl rfl (by omega) (by omega) (fun _ => ?_) (fun c_115 => False.elim (by omega))
    refine a_aload_0 rfl rfl ?_
    refine a_bipush (v := (nI 109)) rfl rfl rfl ?_
    refine a_bipush (v := (nI 101)) rfl rfl rfl ?_
    refine a_bipush (v := (nI 97)) rfl rfl rfl ?_
    refine a_bipush (v := (nI 110)) rfl rfl rfl ?_
    refine a_statL rfl rfl (r_w4 109 101 97 110 (by decide) (by decide) (by decide) (by decide)) (Nat.le_of_ble_eq_true rfl) ⟨rfl, rfl, rfl⟩ rfl rfl rfl (Nat.le_of_ble_eq_true rfl) rfl ?_
    refine a_asL (y := lN (wW 21)) rfl ?_
    refine a_virtI rfl rfl (S21) (Nat.le_of_ble_eq_true rfl) ⟨rfl, rfl, rfl, rfl⟩ rfl rfl rfl (Nat.le_of_ble_eq_true rfl) rfl rfl ?_
    refine a_ifb_eq rfl rfl rfl (fun _ => ?_) (fun c_139 => False.elim (by omega))
    refine a_aload_0 rfl rfl ?_
    refine a_bipush (v := (nI 108)) rfl rfl rfl ?_
    refine a_bipush (v := (nI 105)) rfl rfl rfl ?_
    refine a_bipush (v := (nI 103)) rfl rfl rfl ?_
    refine a_bipush (v := (nI 104)) rfl rfl rfl ?_
    refine a_bipush (v := (nI 116)) rfl rfl rfl ?_
    refine a_statL rfl rfl (r_w5 108 105 103 104 116 (by decide) (by decide) (by decide) (by decide) (by decide)) (Nat.le_of_ble_eq_true rfl) ⟨rfl, rfl, rfl⟩ rfl rfl rfl (Nat.le_of_ble_eq_true rfl) rfl ?_
    refine a_asL (y := lN (wW 23)) rfl ?_
    refine a_virtI rfl rfl (S23) (Nat.le_of_ble_eq_true rfl) ⟨rfl, rfl, rfl, rfl⟩ rfl rfl rfl (Nat.le_of_ble_eq_true rfl) rfl rfl ?_
    refine a_ifb_eq rfl rfl rfl (fun _ => ?_) (fun c_166 => False.elim (by omega))
    refine a_aload_0 rfl rfl ?_
    refine a_bipush (v := (nI 105)) rfl rfl rfl ?_
    refine a_bipush (v := (nI 102)) rfl rfl rfl ?_
    refine a_statL rfl rfl (r_w2 105 102 (by decide) (by decide)) (Nat.le_of_ble_eq_true rfl) ⟨rfl, rfl, rfl⟩ rfl rfl rfl (Nat.le_of_ble_eq_true rfl) rfl ?_
    refine a_asL (y := lN (wW 24)) rfl ?_
    refine a_virtI rfl rfl (S24) (Nat.le_of_ble_eq_true rfl) ⟨rfl, rfl, rfl, rfl⟩ rfl rfl rfl (Nat.le_of_ble_eq_true rfl) rfl rfl ?_
    refine a_ifb_eq rfl rfl rfl (fun c_197 => False.elim (by omega)) (fun _ => ?_)
    refine a_aload_0 rfl rfl ?_
    refine a_bipush (v := (nI 42)) rfl rfl rfl ?_
    refine a_virtI rfl rfl (C) (Nat.le_of_ble_eq_true rfl) ⟨rfl, rfl, rfl, rfl⟩ rfl rfl rfl (Nat.le_of_ble_eq_true rfl) rfl rfl ?_
    exact a_iret rfl rfl
  by_cases q5 : cdT b k i = 21
  · rw [if_pos q5]; exact D21 q5
  rw [if_neg q5]
  by_cases q6 : cdT b k i = 23
  · rw [if_pos q6]
    have hn := NT_lt T.2.1 T.2.2.2 (by omega)
    by_cases q0 : law = 0
    · rw [if_pos q0]
      refine ⟨nI 5, h, gl, ?_, FQ_refl, rfl, by decide, by decide, T⟩
      show avA _ 229 0 [.ref 81, mvU] [] _ _
      refine a_aload_0 rfl rfl ?_
      refine a_geti rfl rfl rfl (fun _ _ _ => rfl) ?_
      refine a_as (y := nI (τ)) w1 ?_
      refine a_iconst (v := (nI 1)) rfl rfl rfl ?_
      refine a_cmpN_ne rfl rfl rfl (by omega) (by omega) (fun _ => ?_) (fun c_5 => False.elim (by omega))
      refine a_aload_0 rfl rfl ?_
      refine a_virtI rfl rfl (N) (Nat.le_of_ble_eq_true rfl) ⟨rfl, rfl, rfl, rfl⟩ rfl rfl rfl (Nat.le_of_ble_eq_true rfl) rfl rfl ?_
      refine a_istore_1 rfl rfl rfl ?_
      refine a_iload_1 rfl rfl ?_
      refine a_ifI_lt rfl rfl rfl (iI_toInt (by omega) (by omega)) (fun _ => ?_) (fun c_26 => False.elim (by omega))
      refine a_aload_0 rfl rfl ?_
      refine a_geti rfl rfl rfl (fun _ _ _ => rfl) ?_
      refine a_as (y := nI (τ)) w1 ?_
      refine a_iconst (v := (nI 1)) rfl rfl rfl ?_
      refine a_cmpN_eq rfl rfl rfl (by omega) (by omega) (fun c_44 => False.elim (by omega)) (fun _ => ?_)
      refine a_iload_1 rfl rfl ?_
      refine a_ifI_lt rfl rfl rfl (iI_toInt (by omega) (by omega)) (fun _ => ?_) (fun c_48 => False.elim (by omega))
      refine a_aload_0 rfl rfl ?_
      refine a_geti rfl rfl rfl (fun _ _ _ => rfl) ?_
      refine a_as (y := nI (τ)) w1 ?_
      refine a_bipush (v := (nI 40)) rfl rfl rfl ?_
      refine a_cmpN_ne rfl rfl rfl (by omega) (by omega) (fun _ => ?_) (fun c_99 => False.elim (by omega))
      refine a_aload_0 rfl rfl ?_
      refine a_geti rfl rfl rfl (fun _ _ _ => rfl) ?_
      refine a_as (y := nI (τ)) w1 ?_
      refine a_bipush (v := (nI 45)) rfl rfl rfl ?_
      refine a_cmpN_ne rfl rfl rfl (by omega) (by omega) (fun _ => ?_) (fun c_115 => False.elim (by omega))
      refine a_aload_0 rfl rfl ?_
      refine a_bipush (v := (nI 109)) rfl rfl rfl ?_
      refine a_bipush (v := (nI 101)) rfl rfl rfl ?_
      refine a_bipush (v := (nI 97)) rfl rfl rfl ?_
      refine a_bipush (v := (nI 110)) rfl rfl rfl ?_
      refine a_statL rfl rfl (r_w4 109 101 97 110 (by decide) (by decide) (by decide) (by decide)) (Nat.le_of_ble_eq_true rfl) ⟨rfl, rfl, rfl⟩ rfl rfl rfl (Nat.le_of_ble_eq_true rfl) rfl ?_
      refine a_asL (y := lN (wW 21)) rfl ?_
      refine a_virtI rfl rfl (S21) (Nat.le_of_ble_eq_true rfl) ⟨rfl, rfl, rfl, rfl⟩ rfl rfl rfl (Nat.le_of_ble_eq_true rfl) rfl rfl ?_
      refine a_ifb_eq rfl rfl rfl (fun _ => ?_) (fun c_139 => False.elim (by omega))
      refine a_aload_0 rfl rfl ?_
      refine a_bipush (v := (nI 108)) rfl rfl rfl ?_
      refine a_bipush (v := (nI 105)) rfl rfl rfl ?_
      refine a_bipush (v := (nI 103)) rfl rfl rfl ?_
      refine a_bipush (v := (nI 104)) rfl rfl rfl ?_
      refine a_bipush (v := (nI 116)) rfl rfl rfl ?_
      refine a_statL rfl rfl (r_w5 108 105 103 104 116 (by decide) (by decide) (by decide) (by decide) (by decide)) (Nat.le_of_ble_eq_true rfl) ⟨rfl, rfl, rfl⟩ rfl rfl rfl (Nat.le_of_ble_eq_true rfl) rfl ?_
      refine a_asL (y := lN (wW 23)) rfl ?_
      refine a_virtI rfl rfl (S23) (Nat.le_of_ble_eq_true rfl) ⟨rfl, rfl, rfl, rfl⟩ rfl rfl rfl (Nat.le_of_ble_eq_true rfl) rfl rfl ?_
      refine a_ifb_eq rfl rfl rfl (fun c_166 => False.elim (by omega)) (fun _ => ?_)
      refine a_aload_0 rfl rfl ?_
      refine a_geti rfl rfl rfl (fun _ _ _ => rfl) ?_
      refine a_as (y := nI (law)) a3 ?_
      refine a_ifN_ne rfl rfl rfl (by omega) (fun c_173 => False.elim (by omega)) (fun _ => ?_)
      refine a_iconst (v := (nI 5)) rfl rfl rfl ?_
      refine a_goto rfl rfl ?_
      exact a_iret rfl rfl
    · rw [if_neg q0]
      obtain ⟨v, h', gl', C, R⟩ := r_opened (L := L) (t := t) (lt := lt) (rt := rt) (rp := rp) (sw := sw) (o := 2) T Q h18 J (by decide) (by decide) hn
      refine ⟨v, h', gl', ?_, R⟩
      show avA _ 229 0 [.ref 81, mvU] [] _ _
      refine a_aload_0 rfl rfl ?_
      refine a_geti rfl rfl rfl (fun _ _ _ => rfl) ?_
      refine a_as (y := nI (τ)) w1 ?_
      refine a_iconst (v := (nI 1)) rfl rfl rfl ?_
      refine a_cmpN_ne rfl rfl rfl (by omega) (by omega) (fun _ => ?_) (fun c_5 => False.elim (by omega))
      refine a_aload_0 rfl rfl ?_
      refine a_virtI rfl rfl (N) (Nat.le_of_ble_eq_true rfl) ⟨rfl, rfl, rfl, rfl⟩ rfl rfl rfl (Nat.le_of_ble_eq_true rfl) rfl rfl ?_
      refine a_istore_1 rfl rfl rfl ?_
      refine a_iload_1 rfl rfl ?_
      refine a_ifI_lt rfl rfl rfl (iI_toInt (by omega) (by omega)) (fun _ => ?_) (fun c_26 => False.elim (by omega))
      refine a_aload_0 rfl rfl ?_
      refine a_geti rfl rfl rfl (fun _ _ _ => rfl) ?_
      refine a_as (y := nI (τ)) w1 ?_
      refine a_iconst (v := (nI 1)) rfl rfl rfl ?_
      refine a_cmpN_eq rfl rfl rfl (by omega) (by omega) (fun c_44 => False.elim (by omega)) (fun _ => ?_)
      refine a_iload_1 rfl rfl ?_
      refine a_ifI_lt rfl rfl rfl (iI_toInt (by omega) (by omega)) (fun _ => ?_) (fun c_48 => False.elim (by omega))
      refine a_aload_0 rfl rfl ?_
      refine a_geti rfl rfl rfl (fun _ _ _ => rfl) ?_
      refine a_as (y := nI (τ)) w1 ?_
      refine a_bipush (v := (nI 40)) rfl rfl rfl ?_
      refine a_cmpN_ne rfl rfl rfl (by omega) (by omega) (fun _ => ?_) (fun c_99 => False.elim (by omega))
      refine a_aload_0 rfl rfl ?_
      refine a_geti rfl rfl rfl (fun _ _ _ => rfl) ?_
      refine a_as (y := nI (τ)) w1 ?_
      refine a_bipush (v := (nI 45)) rfl rfl rfl ?_
      refine a_cmpN_ne rfl rfl rfl (by omega) (by omega) (fun _ => ?_) (fun c_115 => False.elim (by omega))
      refine a_aload_0 rfl rfl ?_
      refine a_bipush (v := (nI 109)) rfl rfl rfl ?_
      refine a_bipush (v := (nI 101)) rfl rfl rfl ?_
      refine a_bipush (v := (nI 97)) rfl rfl rfl ?_
      refine a_bipush (v := (nI 110)) rfl rfl rfl ?_
      refine a_statL rfl rfl (r_w4 109 101 97 110 (by decide) (by decide) (by decide) (by decide)) (Nat.le_of_ble_eq_true rfl) ⟨rfl, rfl, rfl⟩ rfl rfl rfl (Nat.le_of_ble_eq_true rfl) rfl ?_
      refine a_asL (y := lN (wW 21)) rfl ?_
      refine a_virtI rfl rfl (S21) (Nat.le_of_ble_eq_true rfl) ⟨rfl, rfl, rfl, rfl⟩ rfl rfl rfl (Nat.le_of_ble_eq_true rfl) rfl rfl ?_
      refine a_ifb_eq rfl rfl rfl (fun _ => ?_) (fun c_139 => False.elim (by omega))
      refine a_aload_0 rfl rfl ?_
      refine a_bipush (v := (nI 108)) rfl rfl rfl ?_
      refine a_bipush (v := (nI 105)) rfl rfl rfl ?_
      refine a_bipush (v := (nI 103)) rfl rfl rfl ?_
      refine a_bipush (v := (nI 104)) rfl rfl rfl ?_
      refine a_bipush (v := (nI 116)) rfl rfl rfl ?_
      refine a_statL rfl rfl (r_w5 108 105 103 104 116 (by decide) (by decide) (by decide) (by decide) (by decide)) (Nat.le_of_ble_eq_true rfl) ⟨rfl, rfl, rfl⟩ rfl rfl rfl (Nat.le_of_ble_eq_true rfl) rfl ?_
      refine a_asL (y := lN (wW 23)) rfl ?_
      refine a_virtI rfl rfl (S23) (Nat.le_of_ble_eq_true rfl) ⟨rfl, rfl, rfl, rfl⟩ rfl rfl rfl (Nat.le_of_ble_eq_true rfl) rfl rfl ?_
      refine a_ifb_eq rfl rfl rfl (fun c_166 => False.elim (by omega)) (fun _ => ?_)
      refine a_aload_0 rfl rfl ?_
      refine a_geti rfl rfl rfl (fun _ _ _ => rfl) ?_
      refine a_as (y := nI (law)) a3 ?_
      refine a_ifN_ne rfl rfl rfl (by omega) (fun _ => ?_) (fun c_173 => False.elim (by omega))
      refine a_aload_0 rfl rfl ?_
      refine a_iconst (v := (nI 2)) rfl rfl rfl ?_
      refine a_virtI rfl rfl (C) (Nat.le_of_ble_eq_true rfl) ⟨rfl, rfl, rfl, rfl⟩ rfl rfl rfl (Nat.le_of_ble_eq_true rfl) rfl rfl ?_
      exact a_iret rfl rfl
  rw [if_neg q6]
  by_cases q7 : cdT b k i = 24
  · rw [if_pos q7]; exact D24 q7
  rw [if_neg q7]
  have AK := r_askA (L := L) (t := t) (lt := lt) (rt := rt) (rp := rp) (sw := sw) (gl := gl) (by omega) a8 a6
  by_cases q8 : cdT b k i = 30 ∧ askA P = true
  · rw [if_pos q8]
    have hn := NT_lt T.2.1 T.2.2.2 (by omega)
    obtain ⟨v, h', gl', C, R⟩ := r_opened (L := L) (t := t) (lt := lt) (rt := rt) (rp := rp) (sw := sw) (o := 20) T Q h18 J (by decide) (by decide) hn
    refine ⟨v, h', gl', ?_, R⟩
    show avA _ 229 0 [.ref 81, mvU] [] _ _
    refine a_aload_0 rfl rfl ?_
    refine a_geti rfl rfl rfl (fun _ _ _ => rfl) ?_
    refine a_as (y := nI (τ)) w1 ?_
    refine a_iconst (v := (nI 1)) rfl rfl rfl ?_
    refine a_cmpN_ne rfl rfl rfl (by omega) (by omega) (fun _ => ?_) (fun c_5 => False.elim (by omega))
    refine a_aload_0 rfl rfl ?_
    refine a_virtI rfl rfl (N) (Nat.le_of_ble_eq_true rfl) ⟨rfl, rfl, rfl, rfl⟩ rfl rfl rfl (Nat.le_of_ble_eq_true rfl) rfl rfl ?_
    refine a_istore_1 rfl rfl rfl ?_
    refine a_iload_1 rfl rfl ?_
    refine a_ifI_lt rfl rfl rfl (iI_toInt (by omega) (by omega)) (fun _ => ?_) (fun c_26 => False.elim (by omega))
    refine a_aload_0 rfl rfl ?_
    refine a_geti rfl rfl rfl (fun _ _ _ => rfl) ?_
    refine a_as (y := nI (τ)) w1 ?_
    refine a_iconst (v := (nI 1)) rfl rfl rfl ?_
    refine a_cmpN_eq rfl rfl rfl (by omega) (by omega) (fun c_44 => False.elim (by omega)) (fun _ => ?_)
    refine a_iload_1 rfl rfl ?_
    refine a_ifI_lt rfl rfl rfl (iI_toInt (by omega) (by omega)) (fun _ => ?_) (fun c_48 => False.elim (by omega))
    refine a_aload_0 rfl rfl ?_
    refine a_geti rfl rfl rfl (fun _ _ _ => rfl) ?_
    refine a_as (y := nI (τ)) w1 ?_
    refine a_bipush (v := (nI 40)) rfl rfl rfl ?_
    refine a_cmpN_ne rfl rfl rfl (by omega) (by omega) (fun _ => ?_) (fun c_99 => False.elim (by omega))
    refine a_aload_0 rfl rfl ?_
    refine a_geti rfl rfl rfl (fun _ _ _ => rfl) ?_
    refine a_as (y := nI (τ)) w1 ?_
    refine a_bipush (v := (nI 45)) rfl rfl rfl ?_
    refine a_cmpN_ne rfl rfl rfl (by omega) (by omega) (fun _ => ?_) (fun c_115 => False.elim (by omega))
    refine a_aload_0 rfl rfl ?_
    refine a_bipush (v := (nI 109)) rfl rfl rfl ?_
    refine a_bipush (v := (nI 101)) rfl rfl rfl ?_
    refine a_bipush (v := (nI 97)) rfl rfl rfl ?_
    refine a_bipush (v := (nI 110)) rfl rfl rfl ?_
    refine a_statL rfl rfl (r_w4 109 101 97 110 (by decide) (by decide) (by decide) (by decide)) (Nat.le_of_ble_eq_true rfl) ⟨rfl, rfl, rfl⟩ rfl rfl rfl (Nat.le_of_ble_eq_true rfl) rfl ?_
    refine a_asL (y := lN (wW 21)) rfl ?_
    refine a_virtI rfl rfl (S21) (Nat.le_of_ble_eq_true rfl) ⟨rfl, rfl, rfl, rfl⟩ rfl rfl rfl (Nat.le_of_ble_eq_true rfl) rfl rfl ?_
    refine a_ifb_eq rfl rfl rfl (fun _ => ?_) (fun c_139 => False.elim (by omega))
    refine a_aload_0 rfl rfl ?_
    refine a_bipush (v := (nI 108)) rfl rfl rfl ?_
    refine a_bipush (v := (nI 105)) rfl rfl rfl ?_
    refine a_bipush (v := (nI 103)) rfl rfl rfl ?_
    refine a_bipush (v := (nI 104)) rfl rfl rfl ?_
    refine a_bipush (v := (nI 116)) rfl rfl rfl ?_
    refine a_statL rfl rfl (r_w5 108 105 103 104 116 (by decide) (by decide) (by decide) (by decide) (by decide)) (Nat.le_of_ble_eq_true rfl) ⟨rfl, rfl, rfl⟩ rfl rfl rfl (Nat.le_of_ble_eq_true rfl) rfl ?_
    refine a_asL (y := lN (wW 23)) rfl ?_
    refine a_virtI rfl rfl (S23) (Nat.le_of_ble_eq_true rfl) ⟨rfl, rfl, rfl, rfl⟩ rfl rfl rfl (Nat.le_of_ble_eq_true rfl) rfl rfl ?_
    refine a_ifb_eq rfl rfl rfl (fun _ => ?_) (fun c_166 => False.elim (by omega))
    refine a_aload_0 rfl rfl ?_
    refine a_bipush (v := (nI 105)) rfl rfl rfl ?_
    refine a_bipush (v := (nI 102)) rfl rfl rfl ?_
    refine a_statL rfl rfl (r_w2 105 102 (by decide) (by decide)) (Nat.le_of_ble_eq_true rfl) ⟨rfl, rfl, rfl⟩ rfl rfl rfl (Nat.le_of_ble_eq_true rfl) rfl ?_
    refine a_asL (y := lN (wW 24)) rfl ?_
    refine a_virtI rfl rfl (S24) (Nat.le_of_ble_eq_true rfl) ⟨rfl, rfl, rfl, rfl⟩ rfl rfl rfl (Nat.le_of_ble_eq_true rfl) rfl rfl ?_
    refine a_ifb_eq rfl rfl rfl (fun _ => ?_) (fun c_197 => False.elim (by omega))
    refine a_aload_0 rfl rfl ?_
    refine a_bipush (v := (nI 110)) rfl rfl rfl ?_
    refine a_bipush (v := (nI 111)) rfl rfl rfl ?_
    refine a_bipush (v := (nI 116)) rfl rfl rfl ?_
    refine a_statL rfl rfl (r_w3 110 111 116 (by decide) (by decide) (by decide)) (Nat.le_of_ble_eq_true rfl) ⟨rfl, rfl, rfl⟩ rfl rfl rfl (Nat.le_of_ble_eq_true rfl) rfl ?_
    refine a_asL (y := lN (wW 30)) rfl ?_
    refine a_virtI rfl rfl (S30) (Nat.le_of_ble_eq_true rfl) ⟨rfl, rfl, rfl, rfl⟩ rfl rfl rfl (Nat.le_of_ble_eq_true rfl) rfl rfl ?_
    refine a_ifb_eq rfl rfl rfl (fun c_220 => by first | exact absurd c_220 (not_not_intro q8.1) | exact absurd (not_not_intro q8.1) c_220) (fun _ => ?_)
    refine a_aload_0 rfl rfl ?_
    refine a_virtI rfl rfl (AK) (Nat.le_of_ble_eq_true rfl) ⟨rfl, rfl, rfl, rfl⟩ rfl rfl rfl (Nat.le_of_ble_eq_true rfl) rfl rfl ?_
    refine a_ifb_eq rfl rfl rfl (fun c_227 => by first | exact absurd c_227 (not_not_intro q8.2) | exact absurd (not_not_intro q8.2) c_227) (fun _ => ?_)
    refine a_aload_0 rfl rfl ?_
    refine a_bipush (v := (nI 20)) rfl rfl rfl ?_
    refine a_virtI rfl rfl (C) (Nat.le_of_ble_eq_true rfl) ⟨rfl, rfl, rfl, rfl⟩ rfl rfl rfl (Nat.le_of_ble_eq_true rfl) rfl rfl ?_
    refine a_goto rfl rfl ?_
    exact a_iret rfl rfl
  · rw [if_neg q8]
    refine ⟨nI 1, h, gl, ?_, FQ_refl, rfl, by decide, by decide, T⟩
    show avA _ 229 0 [.ref 81, mvU] [] _ _
    refine a_aload_0 rfl rfl ?_
    refine a_geti rfl rfl rfl (fun _ _ _ => rfl) ?_
    refine a_as (y := nI (τ)) w1 ?_
    refine a_iconst (v := (nI 1)) rfl rfl rfl ?_
    refine a_cmpN_ne rfl rfl rfl (by omega) (by omega) (fun _ => ?_) (fun c_5 => False.elim (by omega))
    refine a_aload_0 rfl rfl ?_
    refine a_virtI rfl rfl (N) (Nat.le_of_ble_eq_true rfl) ⟨rfl, rfl, rfl, rfl⟩ rfl rfl rfl (Nat.le_of_ble_eq_true rfl) rfl rfl ?_
    refine a_istore_1 rfl rfl rfl ?_
    refine a_iload_1 rfl rfl ?_
    refine a_ifI_lt rfl rfl rfl (iI_toInt (by omega) (by omega)) (fun _ => ?_) (fun c_26 => False.elim (by omega))
    refine a_aload_0 rfl rfl ?_
    refine a_geti rfl rfl rfl (fun _ _ _ => rfl) ?_
    refine a_as (y := nI (τ)) w1 ?_
    refine a_iconst (v := (nI 1)) rfl rfl rfl ?_
    refine a_cmpN_eq rfl rfl rfl (by omega) (by omega) (fun c_44 => False.elim (by omega)) (fun _ => ?_)
    refine a_iload_1 rfl rfl ?_
    refine a_ifI_lt rfl rfl rfl (iI_toInt (by omega) (by omega)) (fun _ => ?_) (fun c_48 => False.elim (by omega))
    refine a_aload_0 rfl rfl ?_
    refine a_geti rfl rfl rfl (fun _ _ _ => rfl) ?_
    refine a_as (y := nI (τ)) w1 ?_
    refine a_bipush (v := (nI 40)) rfl rfl rfl ?_
    refine a_cmpN_ne rfl rfl rfl (by omega) (by omega) (fun _ => ?_) (fun c_99 => False.elim (by omega))
    refine a_aload_0 rfl rfl ?_
    refine a_geti rfl rfl rfl (fun _ _ _ => rfl) ?_
    refine a_as (y := nI (τ)) w1 ?_
    refine a_bipush (v := (nI 45)) rfl rfl rfl ?_
    refine a_cmpN_ne rfl rfl rfl (by omega) (by omega) (fun _ => ?_) (fun c_115 => False.elim (by omega))
    refine a_aload_0 rfl rfl ?_
    refine a_bipush (v := (nI 109)) rfl rfl rfl ?_
    refine a_bipush (v := (nI 101)) rfl rfl rfl ?_
    refine a_bipush (v := (nI 97)) rfl rfl rfl ?_
    refine a_bipush (v := (nI 110)) rfl rfl rfl ?_
    refine a_statL rfl rfl (r_w4 109 101 97 110 (by decide) (by decide) (by decide) (by decide)) (Nat.le_of_ble_eq_true rfl) ⟨rfl, rfl, rfl⟩ rfl rfl rfl (Nat.le_of_ble_eq_true rfl) rfl ?_
    refine a_asL (y := lN (wW 21)) rfl ?_
    refine a_virtI rfl rfl (S21) (Nat.le_of_ble_eq_true rfl) ⟨rfl, rfl, rfl, rfl⟩ rfl rfl rfl (Nat.le_of_ble_eq_true rfl) rfl rfl ?_
    refine a_ifb_eq rfl rfl rfl (fun _ => ?_) (fun c_139 => False.elim (by omega))
    refine a_aload_0 rfl rfl ?_
    refine a_bipush (v := (nI 108)) rfl rfl rfl ?_
    refine a_bipush (v := (nI 105)) rfl rfl rfl ?_
    refine a_bipush (v := (nI 103)) rfl rfl rfl ?_
    refine a_bipush (v := (nI 104)) rfl rfl rfl ?_
    refine a_bipush (v := (nI 116)) rfl rfl rfl ?_
    refine a_statL rfl rfl (r_w5 108 105 103 104 116 (by decide) (by decide) (by decide) (by decide) (by decide)) (Nat.le_of_ble_eq_true rfl) ⟨rfl, rfl, rfl⟩ rfl rfl rfl (Nat.le_of_ble_eq_true rfl) rfl ?_
    refine a_asL (y := lN (wW 23)) rfl ?_
    refine a_virtI rfl rfl (S23) (Nat.le_of_ble_eq_true rfl) ⟨rfl, rfl, rfl, rfl⟩ rfl rfl rfl (Nat.le_of_ble_eq_true rfl) rfl rfl ?_
    refine a_ifb_eq rfl rfl rfl (fun _ => ?_) (fun c_166 => False.elim (by omega))
    refine a_aload_0 rfl rfl ?_
    refine a_bipush (v := (nI 105)) rfl rfl rfl ?_
    refine a_bipush (v := (nI 102)) rfl rfl rfl ?_
    refine a_statL rfl rfl (r_w2 105 102 (by decide) (by decide)) (Nat.le_of_ble_eq_true rfl) ⟨rfl, rfl, rfl⟩ rfl rfl rfl (Nat.le_of_ble_eq_true rfl) rfl ?_
    refine a_asL (y := lN (wW 24)) rfl ?_
    refine a_virtI rfl rfl (S24) (Nat.le_of_ble_eq_true rfl) ⟨rfl, rfl, rfl, rfl⟩ rfl rfl rfl (Nat.le_of_ble_eq_true rfl) rfl rfl ?_
    refine a_ifb_eq rfl rfl rfl (fun _ => ?_) (fun c_197 => False.elim (by omega))
    refine a_aload_0 rfl rfl ?_
    refine a_bipush (v := (nI 110)) rfl rfl rfl ?_
    refine a_bipush (v := (nI 111)) rfl rfl rfl ?_
    refine a_bipush (v := (nI 116)) rfl rfl rfl ?_
    refine a_statL rfl rfl (r_w3 110 111 116 (by decide) (by decide) (by decide)) (Nat.le_of_ble_eq_true rfl) ⟨rfl, rfl, rfl⟩ rfl rfl rfl (Nat.le_of_ble_eq_true rfl) rfl ?_
    refine a_asL (y := lN (wW 30)) rfl ?_
    refine a_virtI rfl rfl (S30) (Nat.le_of_ble_eq_true rfl) ⟨rfl, rfl, rfl, rfl⟩ rfl rfl rfl (Nat.le_of_ble_eq_true rfl) rfl rfl ?_
    refine a_ifb_eq rfl rfl rfl (fun c_220 => ?_) (fun c_220 => ?_)
    · refine a_iconst (v := (nI 1)) rfl rfl rfl ?_
      exact a_iret rfl rfl
    · refine a_aload_0 rfl rfl ?_
      refine a_virtI rfl rfl (AK) (Nat.le_of_ble_eq_true rfl) ⟨rfl, rfl, rfl, rfl⟩ rfl rfl rfl (Nat.le_of_ble_eq_true rfl) rfl rfl ?_
      refine a_ifb_eq rfl rfl rfl (fun _ => ?_) (fun c_227 => False.elim (q8 ⟨by omega, c_227⟩))
      refine a_iconst (v := (nI 1)) rfl rfl rfl ?_
      exact a_iret rfl rfl
end RB
