/-! THE REFERENCE'S PARSER: behind one, a whole sum -/
theorem rk_ge1 {o : Nat} (h : o < 40) : 1 ≤ rkN o := by
  unfold rkN
  repeat' split
  all_goals omega
theorem stl_open {P : List Nat} (w : CdL) (h : opn P ≠ 0) : ∃ P2, (stl 1 P w).1 = opn P :: P2 := by
  induction P generalizing w with
  | nil => exact absurd rfl h
  | cons o P ih =>
    have e : opn (o :: P) = if 40 ≤ o then o else opn P := rfl
    have es : stl 1 (o :: P) w = if 1 ≤ rkN o then stl 1 P ((o, 0) :: w) else (o :: P, w) := rfl
    by_cases c : 40 ≤ o
    · have r0 : rkN o = 0 := if_pos c
      rw [es, if_neg (by omega), e, if_pos c]
      exact ⟨P, rfl⟩
    · have r1 := rk_ge1 (o := o) (by omega)
      rw [e, if_neg c] at h
      rw [es, if_pos r1, e, if_neg c]
      exact ih _ h
theorem bTw_v {cd : Nat → Nat} {i : Nat} {P : List Nat} (h : bTw cd i P ≠ 0) : cd i ≠ 46 ∧ bTw cd i P < 40 ∧ isO (bTw cd i P) = false ∧ 1 ≤ lsR (bTw cd i P) ∧ lsR (bTw cd i P) ≤ 7 := by
  have hc : ∀ c, cmpO c = 0 ∨ cmpO c = 10 ∨ cmpO c = 11 ∨ cmpO c = 12 ∨ cmpO c = 13 ∨ cmpO c = 14 ∨ cmpO c = 15 := fun c => by
    unfold cmpO
    repeat' split
    all_goals omega
  refine ⟨fun e => ?_, ?_⟩
  · apply h
    unfold bTw
    rw [e]
    have e0 : cmpO 46 = 0 := rfl
    rw [e0]
    show (if opn P = 42 then (if cmpd P = true then 0 else 0) else 0) = 0
    repeat' split
    all_goals rfl
  · have hv : bTw cd i P = 6 ∨ bTw cd i P = 7 ∨ bTw cd i P = 8 ∨ bTw cd i P = 9 ∨ bTw cd i P = 10 ∨ bTw cd i P = 11 ∨ bTw cd i P = 12 ∨ bTw cd i P = 13 ∨ bTw cd i P = 14 ∨ bTw cd i P = 15 ∨ bTw cd i P = 21 ∨ bTw cd i P = 22 := by
      have := hc (cd i)
      unfold bTw at h ⊢
      repeat' split at h
      all_goals simp_all
      all_goals omega
    rcases hv with e | e | e | e | e | e | e | e | e | e | e | e <;> rw [e] <;> decide
section RH
variable {L t : Nat} {lt rt rp : Option Nat} {sw : Bool} {b : Nat → Nat} {k n x law i : Nat}
theorem r_openV {h : Nat → Nat → Int32} {gl : Nat → Nat → Int64} {P : List Nat} (hl : P.length ≤ 160) (S : sPl P (h 86)) (H : h 81 16 = nI P.length) : avE 1 220 [.ref 81] (sX L t lt rt rp sw h gl) (some (.int (oV (opn P))), sX L t lt rt rp sw h gl) := by
  by_cases h0 : opn P = 0
  · rw [h0]
    exact r_open0 hl S H h0
  · rw [oV_n h0]
    exact r_openN hl S H h0
/-- behind one: nothing that fits -/
theorem r_behindN {h : Nat → Nat → Int32} {gl : Nat → Nat → Int64} {P : List Nat} {w : CdL} (T : TS b k n i h gl) (Q : RQ x law P w h) (hb : bTw (cdT b k) i P = 0) (hp : prt (cdT b k) i P = 0) : avE 4 218 [.ref 81] (sX L t lt rt rp sw h gl) (some (.int (-1)), sX L t lt rt rp sw h gl) := by
  have B := r_between (L := L) (t := t) (lt := lt) (rt := rt) (rp := rp) (sw := sw) T Q
  have PP := r_partOf (L := L) (t := t) (lt := lt) (rt := rt) (rp := rp) (sw := sw) T Q
  obtain ⟨a1, a2, a3, a4, a5, a6, a7, a8, a9, a10, a11⟩ := id Q
  rw [hb] at B
  rw [hp] at PP
  have B' : avE 3 219 [.ref 81] (sX L t lt rt rp sw h gl) (some (.int (-1)), sX L t lt rt rp sw h gl) := B
  have PP' : avE 3 227 [.ref 81, .int (oV (opn P))] (sX L t lt rt rp sw h gl) (some (.int (-1)), sX L t lt rt rp sw h gl) := PP
  show avA _ 218 0 [.ref 81, mvU, mvU, mvU] [] _ _
  refine a_aload_0 rfl rfl ?_
  refine a_virtI rfl rfl (B') (Nat.le_of_ble_eq_true rfl) ⟨rfl, rfl, rfl, rfl⟩ rfl rfl rfl (Nat.le_of_ble_eq_true rfl) rfl rfl ?_
  refine a_istore_1 rfl rfl rfl ?_
  refine a_iload_1 rfl rfl ?_
  refine a_ifI_lt rfl rfl rfl rfl (fun _ => ?_) (fun c_6 => False.elim (c_6 (by decide)))
  refine a_aload_0 rfl rfl ?_
  refine a_virtI rfl rfl (r_openV (by omega) a8 a6) (Nat.le_of_ble_eq_true rfl) ⟨rfl, rfl, rfl, rfl⟩ rfl rfl rfl (Nat.le_of_ble_eq_true rfl) rfl rfl ?_
  refine a_istore_2 rfl rfl rfl ?_
  refine a_aload_0 rfl rfl ?_
  refine a_iload_2 rfl rfl ?_
  refine a_virtI rfl rfl (PP') (Nat.le_of_ble_eq_true rfl) ⟨rfl, rfl, rfl, rfl⟩ rfl rfl rfl (Nat.le_of_ble_eq_true rfl) rfl rfl ?_
  refine a_istore_3 rfl rfl rfl ?_
  refine a_iload_3 rfl rfl ?_
  refine a_ifI_ge rfl rfl rfl rfl (fun c_72 => False.elim (absurd c_72 (by decide))) (fun _ => ?_)
  refine a_iconst (v := (-1)) rfl rfl rfl ?_
  exact a_iret rfl rfl
theorem r_behind {h : Nat → Nat → Int32} {gl : Nat → Nat → Int64} {P : List Nat} {w : CdL} (T : TS b k n i h gl) (Q : RQ x law P w h) (J : Jv i P 1 w) (hbp : ¬ (bTw (cdT b k) i P = 0 ∧ prt (cdT b k) i P = 0)) : ∃ v h' gl', avE 4 218 [.ref 81] (sX L t lt rt rp sw h gl) (some (.int v), sX L t lt rt rp sw h' gl') ∧ RZ b k n x law h (hO (cdT b k) i P w) v h' gl' := by
  have B := r_between (L := L) (t := t) (lt := lt) (rt := rt) (rp := rp) (sw := sw) T Q
  have PP := r_partOf (L := L) (t := t) (lt := lt) (rt := rt) (rp := rp) (sw := sw) T Q
  obtain ⟨a1, a2, a3, a4, a5, a6, a7, a8, a9, a10, a11⟩ := id Q
  have jl := Jv_len T J
  have inn := T.2.1.2.2
  have iin := T.2.2.2
  unfold hO
  by_cases hb : bTw (cdT b k) i P = 0
  · have hp : prt (cdT b k) i P ≠ 0 := fun z => hbp ⟨hb, z⟩
    rw [if_neg (not_not_intro hb), if_neg hp]
    have ho0 : opn P ≠ 0 := fun z => hp (by unfold prt; rw [z]; rfl)
    have hn : i < n := NT_lt T.2.1 iin (fun z => hp (by
      unfold prt
      rw [z]
      repeat' split
      all_goals simp_all))
    have o40 : prt (cdT b k) i P = 1 ∨ prt (cdT b k) i P = 43 ∨ prt (cdT b k) i P = 44 := by
      unfold prt at hp ⊢
      repeat' split at hp
      all_goals simp_all
    rw [hb] at B
    have B' : avE 3 219 [.ref 81] (sX L t lt rt rp sw h gl) (some (.int (-1)), sX L t lt rt rp sw h gl) := B
    obtain ⟨h1, C1, Q1, F1, K1⟩ := r_settle (L := L) (t := t) (lt := lt) (rt := rt) (rp := rp) (sw := sw) (gl := gl) (l := 1) (by decide) (by decide) P w h Q
    have J1 := stl_J 1 (by decide) P w i 1 J
    have T1 : TS b k n i h1 gl := TS_of T (fun j hj => K1 j (by omega) (by omega) (by omega)) (F1.1 85 (by omega) (by omega) (by omega))
    obtain ⟨P2, eP⟩ := stl_open w ho0
    have o64 := opn_lt a8
    have op40 : 40 ≤ opn P := by
      have z : ∀ P : List Nat, opn P ≠ 0 → 40 ≤ opn P := fun P => by
        induction P with
        | nil => exact fun q => absurd rfl q
        | cons o P ih =>
          intro q
          have e : opn (o :: P) = if 40 ≤ o then o else opn P := rfl
          rw [e] at q ⊢
          by_cases c : 40 ≤ o
          · rw [if_pos c]; exact c
          · rw [if_neg c] at q ⊢; exact ih q
      exact z P ho0
    generalize stl 1 P w = s at Q1 J1 eP ⊢
    obtain ⟨P1, w1⟩ := s
    have eP' : P1 = opn P :: P2 := eP
    subst eP'
    generalize hq : opn P = q at *
    have ln : (q :: P2).length = P2.length + 1 := rfl
    have oN : opN (q :: P2) = opN P2 + 1 := opN_o (decide_eq_true (Or.inl op40))
    have jl1 := Jv_len T1 J1
    have jl1' : P2.length + 1 ≤ 154 ∧ P2.length + 1 + w1.length ≤ 300 := jl1
    obtain ⟨h2, gl2, C2, F2, T2⟩ := r_nx (L := L) (t := t) (lt := lt) (rt := rt) (rp := rp) (sw := sw) T1 hn
    have Q2 : RQ x law (q :: P2) w1 h2 := F81_RQ Q1 F2
    obtain ⟨b1, b2, b3, b4, b5, b6, b7, b8, b9, b10, b11⟩ := id Q2
    rw [ln] at b6
    rw [oN] at b7
    have J1' : Jv i (q :: P2) 1 w1 := J1
    obtain ⟨j1, j2, j3⟩ := J1'
    rw [oN] at j1
    rw [oN, ln] at j2
    rw [ln] at j3
    have OV := r_openV (L := L) (t := t) (lt := lt) (rt := rt) (rp := rp) (sw := sw) (gl := gl) (P := P) (h := h) (by omega) a8 a6
    rw [hq, oV_n ho0] at OV
    rw [oV_n ho0] at PP
    by_cases p1 : prt (cdT b k) i P = 1
    · rw [if_pos p1]
      rw [p1] at PP
      have PP' : avE 3 227 [.ref 81, .int (nI q)] (sX L t lt rt rp sw h gl) (some (.int (nI 0)), sX L t lt rt rp sw h gl) := PP
      have Q3 : RQ x law P2 w1 (mvPut (mvPut h2 81 17 (nI (opN P2))) 81 16 (nI P2.length)) := by
        refine ⟨(put_nj (by omega)).trans ((put_nj (by omega)).trans b1), b2, (put_nj (by omega)).trans ((put_nj (by omega)).trans b3), b4, (put_nj (by omega)).trans ((put_nj (by omega)).trans b5), put_eq, (put_nj (by omega)).trans put_eq, ?_, ?_, by omega, by omega⟩
        · rw [show (mvPut (mvPut h2 81 17 (nI (opN P2))) 81 16 (nI P2.length)) 86 = h2 86 from (put_ne (by omega)).trans (put_ne (by omega))]; exact b8.2.2
        · rw [show (mvPut (mvPut h2 81 17 (nI (opN P2))) 81 16 (nI P2.length)) 84 = h2 84 from (put_ne (by omega)).trans (put_ne (by omega))]; exact b9
      have T3 : TS b k n (i + 1) (mvPut (mvPut h2 81 17 (nI (opN P2))) 81 16 (nI P2.length)) gl2 := TS_of T2 (fun j hj => (put_nj (by omega)).trans (put_nj (by omega))) ((put_ne (by omega)).trans (put_ne (by omega)))
      have F3 : FQ x h (mvPut (mvPut h2 81 17 (nI (opN P2))) 81 16 (nI P2.length)) := FQ_trans F1 (FQ_trans (F81_FQ F2) (FQ_trans (FQ_put (by omega)) (FQ_put (by omega))))
      by_cases c44 : q = 44
      · rw [if_pos c44]
        obtain ⟨Q4, F4, k4⟩ := em_RQ (o := 3) (v := 0) Q3 (by omega)
        have T4 : TS b k n (i + 1) (emS x w1 3 0 (mvPut (mvPut h2 81 17 (nI (opN P2))) 81 16 (nI P2.length))) gl2 := TS_of T3 (fun j hj => k4 j (by omega)) (F4.1 85 (by omega) (by omega) (by omega))
        have J4 : Jv (i + 1) P2 1 ((3, 0) :: w1) := by
          have l4 : ((3, 0) :: w1).length = w1.length + 1 := rfl
          unfold Jv
          rw [l4]
          omega
        obtain ⟨v, h5, gl5, C5, R5⟩ := r_endOne (L := L) (t := t) (lt := lt) (rt := rt) (rp := rp) (sw := sw) T4 Q4 J4
        refine ⟨v, h5, gl5, ?_, RZ_pre (FQ_trans F3 F4) R5⟩
        show avA _ 218 0 [.ref 81, mvU, mvU, mvU] [] _ _
        refine a_aload_0 rfl rfl ?_
        refine a_virtI rfl rfl (B') (Nat.le_of_ble_eq_true rfl) ⟨rfl, rfl, rfl, rfl⟩ rfl rfl rfl (Nat.le_of_ble_eq_true rfl) rfl rfl ?_
        refine a_istore_1 rfl rfl rfl ?_
        refine a_iload_1 rfl rfl ?_
        refine a_ifI_lt rfl rfl rfl rfl (fun _ => ?_) (fun c_6 => False.elim (c_6 (by decide)))
        refine a_aload_0 rfl rfl ?_
        refine a_virtI rfl rfl (OV) (Nat.le_of_ble_eq_true rfl) ⟨rfl, rfl, rfl, rfl⟩ rfl rfl rfl (Nat.le_of_ble_eq_true rfl) rfl rfl ?_
        refine a_istore_2 rfl rfl rfl ?_
        refine a_aload_0 rfl rfl ?_
        refine a_iload_2 rfl rfl ?_
        refine a_virtI rfl rfl (PP') (Nat.le_of_ble_eq_true rfl) ⟨rfl, rfl, rfl, rfl⟩ rfl rfl rfl (Nat.le_of_ble_eq_true rfl) rfl rfl ?_
        refine a_istore_3 rfl rfl rfl ?_
        refine a_iload_3 rfl rfl ?_
        refine a_ifN_ge rfl rfl rfl (by omega) (fun _ => ?_) (fun c_72 => False.elim (c_72))
        refine a_aload_0 rfl rfl ?_
        refine a_iconst (v := (nI 1)) rfl rfl rfl ?_
        refine a_virt0 rfl rfl (C1) (Nat.le_of_ble_eq_true rfl) ⟨rfl, rfl, rfl, rfl⟩ rfl rfl rfl (Nat.le_of_ble_eq_true rfl) rfl rfl ?_
        refine a_aload_0 rfl rfl ?_
        refine a_virt0 rfl rfl (C2) (Nat.le_of_ble_eq_true rfl) ⟨rfl, rfl, rfl, rfl⟩ rfl rfl rfl (Nat.le_of_ble_eq_true rfl) rfl rfl ?_
        refine a_iload_3 rfl rfl ?_
        refine a_ifN_ne rfl rfl rfl (by omega) (fun c_87 => False.elim (by omega)) (fun _ => ?_)
        refine a_aload_0 rfl rfl ?_
        refine a_dup rfl rfl rfl ?_
        refine a_geti rfl rfl rfl (fun _ _ _ => rfl) ?_
        refine a_as (y := nI (opN P2 + 1)) b7 ?_
        refine a_iconst (v := (nI 1)) rfl rfl rfl ?_
        refine a_isubN rfl rfl (by omega) ?_
        refine a_as (y := nI (opN P2)) (congrArg nI (by omega)) ?_
        refine a_puti rfl rfl rfl rfl ?_
        refine a_aload_0 rfl rfl ?_
        refine a_dup rfl rfl rfl ?_
        refine a_geti rfl rfl rfl (fun _ _ _ => rfl) ?_
        refine a_as (y := nI (P2.length + 1)) ((put_nj (by omega)).trans b6) ?_
        refine a_iconst (v := (nI 1)) rfl rfl rfl ?_
        refine a_isubN rfl rfl (by omega) ?_
        refine a_as (y := nI (P2.length)) (congrArg nI (by omega)) ?_
        refine a_puti rfl rfl rfl rfl ?_
        refine a_iload_2 rfl rfl ?_
        refine a_bipush (v := (nI 44)) rfl rfl rfl ?_
        refine a_cmpN_ne rfl rfl rfl (by omega) (by omega) (fun c_113 => False.elim (by omega)) (fun _ => ?_)
        refine a_aload_0 rfl rfl ?_
        refine a_iconst (v := (nI 3)) rfl rfl rfl ?_
        refine a_iconst (v := (nI 0)) rfl rfl rfl ?_
        refine a_virt0 rfl rfl (r_emit 3 0 Q3.1 Q3.2.1 Q3.2.2.2.2.1 (by omega)) (Nat.le_of_ble_eq_true rfl) ⟨rfl, rfl, rfl, rfl⟩ rfl rfl rfl (Nat.le_of_ble_eq_true rfl) rfl rfl ?_
        refine a_aload_0 rfl rfl ?_
        refine a_virtI rfl rfl (C5) (Nat.le_of_ble_eq_true rfl) ⟨rfl, rfl, rfl, rfl⟩ rfl rfl rfl (Nat.le_of_ble_eq_true rfl) rfl rfl ?_
        exact a_iret rfl rfl
      · rw [if_neg c44]
        have J4 : Jv (i + 1) P2 1 w1 := by
          unfold Jv
          omega
        obtain ⟨v, h5, gl5, C5, R5⟩ := r_endOne (L := L) (t := t) (lt := lt) (rt := rt) (rp := rp) (sw := sw) T3 Q3 J4
        refine ⟨v, h5, gl5, ?_, RZ_pre F3 R5⟩
        show avA _ 218 0 [.ref 81, mvU, mvU, mvU] [] _ _
        refine a_aload_0 rfl rfl ?_
        refine a_virtI rfl rfl (B') (Nat.le_of_ble_eq_true rfl) ⟨rfl, rfl, rfl, rfl⟩ rfl rfl rfl (Nat.le_of_ble_eq_true rfl) rfl rfl ?_
        refine a_istore_1 rfl rfl rfl ?_
        refine a_iload_1 rfl rfl ?_
        refine a_ifI_lt rfl rfl rfl rfl (fun _ => ?_) (fun c_6 => False.elim (c_6 (by decide)))
        refine a_aload_0 rfl rfl ?_
        refine a_virtI rfl rfl (OV) (Nat.le_of_ble_eq_true rfl) ⟨rfl, rfl, rfl, rfl⟩ rfl rfl rfl (Nat.le_of_ble_eq_true rfl) rfl rfl ?_
        refine a_istore_2 rfl rfl rfl ?_
        refine a_aload_0 rfl rfl ?_
        refine a_iload_2 rfl rfl ?_
        refine a_virtI rfl rfl (PP') (Nat.le_of_ble_eq_true rfl) ⟨rfl, rfl, rfl, rfl⟩ rfl rfl rfl (Nat.le_of_ble_eq_true rfl) rfl rfl ?_
        refine a_istore_3 rfl rfl rfl ?_
        refine a_iload_3 rfl rfl ?_
        refine a_ifN_ge rfl rfl rfl (by omega) (fun _ => ?_) (fun c_72 => False.elim (c_72))
        refine a_aload_0 rfl rfl ?_
        refine a_iconst (v := (nI 1)) rfl rfl rfl ?_
        refine a_virt0 rfl rfl (C1) (Nat.le_of_ble_eq_true rfl) ⟨rfl, rfl, rfl, rfl⟩ rfl rfl rfl (Nat.le_of_ble_eq_true rfl) rfl rfl ?_
        refine a_aload_0 rfl rfl ?_
        refine a_virt0 rfl rfl (C2) (Nat.le_of_ble_eq_true rfl) ⟨rfl, rfl, rfl, rfl⟩ rfl rfl rfl (Nat.le_of_ble_eq_true rfl) rfl rfl ?_
        refine a_iload_3 rfl rfl ?_
        refine a_ifN_ne rfl rfl rfl (by omega) (fun c_87 => False.elim (by omega)) (fun _ => ?_)
        refine a_aload_0 rfl rfl ?_
        refine a_dup rfl rfl rfl ?_
        refine a_geti rfl rfl rfl (fun _ _ _ => rfl) ?_
        refine a_as (y := nI (opN P2 + 1)) b7 ?_
        refine a_iconst (v := (nI 1)) rfl rfl rfl ?_
        refine a_isubN rfl rfl (by omega) ?_
        refine a_as (y := nI (opN P2)) (congrArg nI (by omega)) ?_
        refine a_puti rfl rfl rfl rfl ?_
        refine a_aload_0 rfl rfl ?_
        refine a_dup rfl rfl rfl ?_
        refine a_geti rfl rfl rfl (fun _ _ _ => rfl) ?_
        refine a_as (y := nI (P2.length + 1)) ((put_nj (by omega)).trans b6) ?_
        refine a_iconst (v := (nI 1)) rfl rfl rfl ?_
        refine a_isubN rfl rfl (by omega) ?_
        refine a_as (y := nI (P2.length)) (congrArg nI (by omega)) ?_
        refine a_puti rfl rfl rfl rfl ?_
        refine a_iload_2 rfl rfl ?_
        refine a_bipush (v := (nI 44)) rfl rfl rfl ?_
        refine a_cmpN_ne rfl rfl rfl (by omega) (by omega) (fun _ => ?_) (fun c_113 => False.elim (by omega))
        refine a_aload_0 rfl rfl ?_
        refine a_virtI rfl rfl (C5) (Nat.le_of_ble_eq_true rfl) ⟨rfl, rfl, rfl, rfl⟩ rfl rfl rfl (Nat.le_of_ble_eq_true rfl) rfl rfl ?_
        exact a_iret rfl rfl
    · rw [if_neg p1]
      generalize hpq : prt (cdT b k) i P = p at *
      have PP' : avE 3 227 [.ref 81, .int (nI q)] (sX L t lt rt rp sw h gl) (some (.int (nI p)), sX L t lt rt rp sw h gl) := by
        have e : pV p = nI p := by unfold pV; rw [if_neg hp, if_neg p1]
        rw [e] at PP
        exact PP
      have OA := r_openAt (L := L) (t := t) (lt := lt) (rt := rt) (rp := rp) (sw := sw) (gl := gl2) (P := q :: P2) (h := h2) (by omega) b8 b6
      rw [show oaV (q :: P2) = nI P2.length from if_pos op40] at OA
      have ip : isO p = true := decide_eq_true (Or.inl (by omega))
      have Q4 : RQ x law (p :: P2) w1 (mvPut (mvPut h2 86 P2.length (nI p)) 81 18 (nI 0)) := by
        refine ⟨(put_nj (by omega)).trans ((put_o (by omega)).trans b1), b2, (put_nj (by omega)).trans ((put_o (by omega)).trans b3), b4, (put_nj (by omega)).trans ((put_o (by omega)).trans b5), (put_nj (by omega)).trans ((put_o (by omega)).trans b6), ?_, ⟨?_, by omega, ?_⟩, ?_, b10, b11⟩
        · rw [opN_o ip]; exact (put_nj (by omega)).trans ((put_o (by omega)).trans b7)
        · rw [up_86]; exact va_up_self _ _ _
        · rw [up_86]; exact sPl_up (Nat.le_refl _) b8.2.2
        · rw [show (mvPut (mvPut h2 86 P2.length (nI p)) 81 18 (nI 0)) 84 = h2 84 from (put_ne (by omega)).trans (put_ne (by omega))]; exact b9
      have T4 : TS b k n (i + 1) (mvPut (mvPut h2 86 P2.length (nI p)) 81 18 (nI 0)) gl2 := TS_of T2 (fun j hj => (put_nj (by omega)).trans (put_o (by omega))) ((put_ne (by omega)).trans (put_ne (by omega)))
      refine ⟨nI 0, mvPut (mvPut h2 86 P2.length (nI p)) 81 18 (nI 0), gl2, ?_, FQ_trans F1 (FQ_trans (F81_FQ F2) (FQ_trans (FQ_put (by omega)) (FQ_put (by omega)))), rfl, T4, Q4, put_eq, ?_⟩
      · show avA _ 218 0 [.ref 81, mvU, mvU, mvU] [] _ _
        refine a_aload_0 rfl rfl ?_
        refine a_virtI rfl rfl (B') (Nat.le_of_ble_eq_true rfl) ⟨rfl, rfl, rfl, rfl⟩ rfl rfl rfl (Nat.le_of_ble_eq_true rfl) rfl rfl ?_
        refine a_istore_1 rfl rfl rfl ?_
        refine a_iload_1 rfl rfl ?_
        refine a_ifI_lt rfl rfl rfl rfl (fun _ => ?_) (fun c_6 => False.elim (c_6 (by decide)))
        refine a_aload_0 rfl rfl ?_
        refine a_virtI rfl rfl (OV) (Nat.le_of_ble_eq_true rfl) ⟨rfl, rfl, rfl, rfl⟩ rfl rfl rfl (Nat.le_of_ble_eq_true rfl) rfl rfl ?_
        refine a_istore_2 rfl rfl rfl ?_
        refine a_aload_0 rfl rfl ?_
        refine a_iload_2 rfl rfl ?_
        refine a_virtI rfl rfl (PP') (Nat.le_of_ble_eq_true rfl) ⟨rfl, rfl, rfl, rfl⟩ rfl rfl rfl (Nat.le_of_ble_eq_true rfl) rfl rfl ?_
        refine a_istore_3 rfl rfl rfl ?_
        refine a_iload_3 rfl rfl ?_
        refine a_ifN_ge rfl rfl rfl (by omega) (fun _ => ?_) (fun c_72 => False.elim (c_72))
        refine a_aload_0 rfl rfl ?_
        refine a_iconst (v := (nI 1)) rfl rfl rfl ?_
        refine a_virt0 rfl rfl (C1) (Nat.le_of_ble_eq_true rfl) ⟨rfl, rfl, rfl, rfl⟩ rfl rfl rfl (Nat.le_of_ble_eq_true rfl) rfl rfl ?_
        refine a_aload_0 rfl rfl ?_
        refine a_virt0 rfl rfl (C2) (Nat.le_of_ble_eq_true rfl) ⟨rfl, rfl, rfl, rfl⟩ rfl rfl rfl (Nat.le_of_ble_eq_true rfl) rfl rfl ?_
        refine a_iload_3 rfl rfl ?_
        refine a_ifN_ne rfl rfl rfl (by omega) (fun _ => ?_) (fun c_87 => False.elim (by omega))
        refine a_aload_0 rfl rfl ?_
        refine a_getr rfl rfl rfl (fun _ _ _ => rfl) rfl ?_
        refine a_aload_0 rfl rfl ?_
        refine a_virtI rfl rfl (OA) (Nat.le_of_ble_eq_true rfl) ⟨rfl, rfl, rfl, rfl⟩ rfl rfl rfl (Nat.le_of_ble_eq_true rfl) rfl rfl ?_
        refine a_iload_3 rfl rfl ?_
        refine a_iast rfl rfl rfl rfl (by omega) (by decide) ?_
        refine a_aload_0 rfl rfl ?_
        refine a_iconst (v := (nI 0)) rfl rfl rfl ?_
        refine a_putz rfl rfl rfl rfl (Or.inl rfl) ?_
        refine a_iconst (v := (nI 0)) rfl rfl rfl ?_
        exact a_iret rfl rfl
      · show Jv (i + 1) (p :: P2) 0 w1
        have lnp : (p :: P2).length = P2.length + 1 := rfl
        unfold Jv
        rw [opN_o ip, lnp]
        omega
  · rw [if_pos hb]
    obtain ⟨v1, v2, v3, v4, v5⟩ := bTw_v hb
    have hn := NT_lt T.2.1 iin v1
    rw [oV_n hb] at B
    generalize bTw (cdT b k) i P = o at *
    obtain ⟨h1, C1, Q1, F1, K1⟩ := r_settle (L := L) (t := t) (lt := lt) (rt := rt) (rp := rp) (sw := sw) (gl := gl) (l := lsR o) v4 v5 P w h Q
    have J1 := stl_J (lsR o) v4 P w i 1 J
    have T1 : TS b k n i h1 gl := TS_of T (fun j hj => K1 j (by omega) (by omega) (by omega)) (F1.1 85 (by omega) (by omega) (by omega))
    have jl1 := Jv_len T1 J1
    generalize stl (lsR o) P w = s at Q1 J1 jl1 ⊢
    obtain ⟨P1, w1⟩ := s
    have jl1' : P1.length ≤ 154 ∧ P1.length + w1.length ≤ 300 := jl1
    have J1' : Jv i P1 1 w1 := J1
    obtain ⟨j1, j2, j3⟩ := J1'
    have oN : opN (o :: P1) = opN P1 := by show opN P1 + (if isO o = true then 1 else 0) = _; rw [v3]; rfl
    have c6 : h1 81 16 = nI P1.length := Q1.2.2.2.2.2.1
    have c7 : h1 81 17 = nI (opN P1) := Q1.2.2.2.2.2.2.1
    have P1' := r_push (o := o) (h1 := mvPut (mvPut (mvPut h1 86 P1.length (nI o)) 81 16 (nI (P1.length + 1))) 81 18 (nI 0)) T1 Q1 (by omega) (by show P1.length + w1.length + 1 ≤ 300; omega) (by show P1.length ≤ 155; omega) (fun j g1 g2 g3 => (put_nj g3).trans ((put_nj g1).trans (put_o (by omega)))) ((put_nj (by omega)).trans put_eq) ((put_nj (by omega)).trans ((put_nj (by omega)).trans ((put_o (by omega)).trans (c7.trans (congrArg nI oN.symm))))) ((put_ne (by omega)).trans up_86) (fun p g1 g2 => (put_ne g1).trans ((put_ne g1).trans (put_ne g2)))
    obtain ⟨T2, Q2, F2⟩ := P1'
    obtain ⟨h3, gl3, C3, F3, T3⟩ := r_nx (L := L) (t := t) (lt := lt) (rt := rt) (rp := rp) (sw := sw) T2 hn
    refine ⟨nI 0, h3, gl3, ?_, FQ_trans F1 (FQ_trans F2 (F81_FQ F3)), rfl, T3, F81_RQ Q2 F3, (F3.2 18 (by omega)).trans put_eq, ?_⟩
    · unfold lsR at C1
      by_cases r4 : rkN o = 4
      · rw [if_pos r4] at C1
        show avA _ 218 0 [.ref 81, mvU, mvU, mvU] [] _ _
        refine a_aload_0 rfl rfl ?_
        refine a_virtI rfl rfl (B) (Nat.le_of_ble_eq_true rfl) ⟨rfl, rfl, rfl, rfl⟩ rfl rfl rfl (Nat.le_of_ble_eq_true rfl) rfl rfl ?_
        refine a_istore_1 rfl rfl rfl ?_
        refine a_iload_1 rfl rfl ?_
        refine a_ifN_lt rfl rfl rfl (by omega) (fun c_6 => False.elim (c_6)) (fun _ => ?_)
        refine a_aload_0 rfl rfl ?_
        refine a_iload_1 rfl rfl ?_
        refine a_statI rfl rfl (r_rank o (by omega)) (Nat.le_of_ble_eq_true rfl) ⟨rfl, rfl, rfl⟩ rfl rfl rfl (Nat.le_of_ble_eq_true rfl) rfl ?_
        refine a_iconst (v := (nI 4)) rfl rfl rfl ?_
        refine a_cmpN_ne rfl rfl rfl (by omega) (by omega) (fun c_15 => False.elim (by omega)) (fun _ => ?_)
        refine a_iconst (v := (nI 5)) rfl rfl rfl ?_
        refine a_goto rfl rfl ?_
        refine a_virt0 rfl rfl (C1) (Nat.le_of_ble_eq_true rfl) ⟨rfl, rfl, rfl, rfl⟩ rfl rfl rfl (Nat.le_of_ble_eq_true rfl) rfl rfl ?_
        refine a_aload_0 rfl rfl ?_
        refine a_getr rfl rfl rfl (fun _ _ _ => rfl) rfl ?_
        refine a_aload_0 rfl rfl ?_
        refine a_geti rfl rfl rfl (fun _ _ _ => rfl) ?_
        refine a_as (y := nI (P1.length)) c6 ?_
        refine a_iload_1 rfl rfl ?_
        refine a_iast rfl rfl rfl rfl (by omega) (by decide) ?_
        refine a_aload_0 rfl rfl ?_
        refine a_dup rfl rfl rfl ?_
        refine a_geti rfl rfl rfl (fun _ _ _ => rfl) ?_
        refine a_as (y := nI (P1.length)) ((put_o (by omega)).trans c6) ?_
        refine a_iconst (v := (nI 1)) rfl rfl rfl ?_
        refine a_iaddN rfl rfl ?_
        refine a_puti rfl rfl rfl rfl ?_
        refine a_aload_0 rfl rfl ?_
        refine a_iconst (v := (nI 0)) rfl rfl rfl ?_
        refine a_putz rfl rfl rfl rfl (Or.inl rfl) ?_
        refine a_aload_0 rfl rfl ?_
        refine a_virt0 rfl rfl (C3) (Nat.le_of_ble_eq_true rfl) ⟨rfl, rfl, rfl, rfl⟩ rfl rfl rfl (Nat.le_of_ble_eq_true rfl) rfl rfl ?_
        refine a_iconst (v := (nI 0)) rfl rfl rfl ?_
        exact a_iret rfl rfl
      · rw [if_neg r4] at C1
        have r7 := rkN_7 o
        show avA _ 218 0 [.ref 81, mvU, mvU, mvU] [] _ _
        refine a_aload_0 rfl rfl ?_
        refine a_virtI rfl rfl (B) (Nat.le_of_ble_eq_true rfl) ⟨rfl, rfl, rfl, rfl⟩ rfl rfl rfl (Nat.le_of_ble_eq_true rfl) rfl rfl ?_
        refine a_istore_1 rfl rfl rfl ?_
        refine a_iload_1 rfl rfl ?_
        refine a_ifN_lt rfl rfl rfl (by omega) (fun c_6 => False.elim (c_6)) (fun _ => ?_)
        refine a_aload_0 rfl rfl ?_
        refine a_iload_1 rfl rfl ?_
        refine a_statI rfl rfl (r_rank o (by omega)) (Nat.le_of_ble_eq_true rfl) ⟨rfl, rfl, rfl⟩ rfl rfl rfl (Nat.le_of_ble_eq_true rfl) rfl ?_
        refine a_iconst (v := (nI 4)) rfl rfl rfl ?_
        refine a_cmpN_ne rfl rfl rfl (by omega) (by omega) (fun _ => ?_) (fun c_15 => False.elim (by omega))
        refine a_iload_1 rfl rfl ?_
        refine a_statI rfl rfl (r_rank o (by omega)) (Nat.le_of_ble_eq_true rfl) ⟨rfl, rfl, rfl⟩ rfl rfl rfl (Nat.le_of_ble_eq_true rfl) rfl ?_
        refine a_virt0 rfl rfl (C1) (Nat.le_of_ble_eq_true rfl) ⟨rfl, rfl, rfl, rfl⟩ rfl rfl rfl (Nat.le_of_ble_eq_true rfl) rfl rfl ?_
        refine a_aload_0 rfl rfl ?_
        refine a_getr rfl rfl rfl (fun _ _ _ => rfl) rfl ?_
        refine a_aload_0 rfl rfl ?_
        refine a_geti rfl rfl rfl (fun _ _ _ => rfl) ?_
        refine a_as (y := nI (P1.length)) c6 ?_
        refine a_iload_1 rfl rfl ?_
        refine a_iast rfl rfl rfl rfl (by omega) (by decide) ?_
        refine a_aload_0 rfl rfl ?_
        refine a_dup rfl rfl rfl ?_
        refine a_geti rfl rfl rfl (fun _ _ _ => rfl) ?_
        refine a_as (y := nI (P1.length)) ((put_o (by omega)).trans c6) ?_
        refine a_iconst (v := (nI 1)) rfl rfl rfl ?_
        refine a_iaddN rfl rfl ?_
        refine a_puti rfl rfl rfl rfl ?_
        refine a_aload_0 rfl rfl ?_
        refine a_iconst (v := (nI 0)) rfl rfl rfl ?_
        refine a_putz rfl rfl rfl rfl (Or.inl rfl) ?_
        refine a_aload_0 rfl rfl ?_
        refine a_virt0 rfl rfl (C3) (Nat.le_of_ble_eq_true rfl) ⟨rfl, rfl, rfl, rfl⟩ rfl rfl rfl (Nat.le_of_ble_eq_true rfl) rfl rfl ?_
        refine a_iconst (v := (nI 0)) rfl rfl rfl ?_
        exact a_iret rfl rfl
    · show Jv (i + 1) (o :: P1) 0 w1
      have ln : (o :: P1).length = P1.length + 1 := rfl
      unfold Jv
      rw [oN, ln]
      omega
/-- what a whole sum says -/
def RY (b : Nat → Nat) (k n x law : Nat) (h : Nat → Nat → Int32) (r : Fin2) (v : Int32) (h' : Nat → Nat → Int32) (gl' : Nat → Nat → Int64) : Prop := FQ x h h' ∧ match r with
  | .inl (w', j) => v = nI 0 ∧ TS b k n j h' gl' ∧ (∃ P', RQ x law P' w' h') ∧ w'.length ≤ j
  | .inr (c, j) => v = nI c ∧ 1 ≤ c ∧ c ≤ 5 ∧ TS b k n j h' gl'
theorem l_summed (m : Nat) : ∀ (c : Cfg) (h : Nat → Nat → Int32) (gl : Nat → Nat → Int64) (r : Fin2) (y : Value), rG law (cdT b k) (nmT b k) m c = some r → RCf b k n x law c h gl → ∃ v h' gl', avA 7 217 15 [.ref 81, y] [] (sX L t lt rt rp sw h gl) (some (.int v), sX L t lt rt rp sw h' gl') ∧ RY b k n x law h r v h' gl' := by
  induction m with
  | zero => intro c h gl r y hp; rw [rG] at hp; exact absurd hp (by simp)
  | succ m ih =>
    intro c h gl r y hp RC
    obtain ⟨i, P, wh, w⟩ := c
    obtain ⟨T, Q, h18, J⟩ := RC
    have T' : TS b k n i h gl := T
    have Q' : RQ x law P w h := Q
    have h18' : h 81 18 = bB wh := h18
    obtain ⟨a1, a2, a3, a4, a5, a6, a7, a8, a9, a10, a11⟩ := id Q'
    rw [rG] at hp
    cases wh with
    | false =>
      have J' : Jv i P 0 w := J
      obtain ⟨v1, h1, gl1, C1, R1⟩ := r_beginOne (L := L) (t := t) (lt := lt) (rt := rt) (rp := rp) (sw := sw) T' Q' h18' J'
      have es : stP law (cdT b k) (nmT b k) (i, P, false, w) = bO law (cdT b k) (nmT b k) i P w := rfl
      rw [es] at hp
      generalize bO law (cdT b k) (nmT b k) i P w = s at hp R1
      match s, hp, R1 with
      | .inl c', hp, ⟨F1, e0, RC'⟩ =>
        subst e0
        obtain ⟨v, h', gl', C, F, R⟩ := ih c' h1 gl1 r (.int (nI 0)) hp RC'
        refine ⟨v, h', gl', ?_, FQ_trans F1 F, R⟩
        refine a_aload_0 rfl rfl ?_
        refine a_geti rfl rfl rfl (fun _ _ _ => rfl) ?_
        refine a_as (y := nI (0)) h18' ?_
        refine a_ifN_eq rfl rfl rfl (by omega) (fun _ => ?_) (fun c_19 => False.elim (by omega))
        refine a_aload_0 rfl rfl ?_
        refine a_virtI rfl rfl (C1) (Nat.le_of_ble_eq_true rfl) ⟨rfl, rfl, rfl, rfl⟩ rfl rfl rfl (Nat.le_of_ble_eq_true rfl) rfl rfl ?_
        refine a_istore_1 rfl rfl rfl ?_
        refine a_iload_1 rfl rfl ?_
        refine a_ifN_le rfl rfl rfl (by omega) (fun _ => ?_) (fun c_35 => False.elim (by omega))
        refine a_iload_1 rfl rfl ?_
        refine a_ifN_ne rfl rfl rfl (by omega) (fun c_41 => False.elim (by omega)) (fun _ => ?_)
        refine a_goto rfl rfl ?_
        exact C
      | .inr (.inr (c, j)), hp, ⟨F1, e0, g1, g2, T1⟩ =>
        obtain rfl := Option.some.inj hp
        subst e0
        refine ⟨nI c, h1, gl1, ?_, F1, rfl, g1, g2, T1⟩
        refine a_aload_0 rfl rfl ?_
        refine a_geti rfl rfl rfl (fun _ _ _ => rfl) ?_
        refine a_as (y := nI (0)) h18' ?_
        refine a_ifN_eq rfl rfl rfl (by omega) (fun _ => ?_) (fun c_19 => False.elim (by omega))
        refine a_aload_0 rfl rfl ?_
        refine a_virtI rfl rfl (C1) (Nat.le_of_ble_eq_true rfl) ⟨rfl, rfl, rfl, rfl⟩ rfl rfl rfl (Nat.le_of_ble_eq_true rfl) rfl rfl ?_
        refine a_istore_1 rfl rfl rfl ?_
        refine a_iload_1 rfl rfl ?_
        refine a_ifN_le rfl rfl rfl (by omega) (fun c_35 => False.elim (by omega)) (fun _ => ?_)
        refine a_iload_1 rfl rfl ?_
        exact a_iret rfl rfl
      | .inr (.inl _), hp, ⟨_, z⟩ => exact z.elim
    | true =>
      have J' : Jv i P 1 w := J
      have es : stP law (cdT b k) (nmT b k) (i, P, true, w) = hO (cdT b k) i P w := rfl
      rw [es] at hp
      by_cases hbp : bTw (cdT b k) i P = 0 ∧ prt (cdT b k) i P = 0
      · have C1 := r_behindN (L := L) (t := t) (lt := lt) (rt := rt) (rp := rp) (sw := sw) T' Q' hbp.1 hbp.2
        have OV := r_openV (L := L) (t := t) (lt := lt) (rt := rt) (rp := rp) (sw := sw) (gl := gl) (by omega) a8 a6
        have eh : hO (cdT b k) i P w = if opn P ≠ 0 then sBad 1 i else .inr (.inl ((stl 1 P w).2, i)) := by
          unfold hO
          rw [if_neg (not_not_intro hbp.1), if_pos hbp.2]
        rw [eh] at hp
        by_cases h0 : opn P = 0
        · rw [if_neg (not_not_intro h0)] at hp
          obtain rfl := Option.some.inj hp
          rw [h0] at OV
          have OV' : avE 1 220 [.ref 81] (sX L t lt rt rp sw h gl) (some (.int (-1)), sX L t lt rt rp sw h gl) := OV
          obtain ⟨h1, C2, Q1, F1, K1⟩ := r_settle (L := L) (t := t) (lt := lt) (rt := rt) (rp := rp) (sw := sw) (gl := gl) (l := 1) (by decide) (by decide) P w h Q'
          have J1 := stl_J 1 (by decide) P w i 1 J'
          have T1 : TS b k n i h1 gl := TS_of T' (fun j hj => K1 j (by omega) (by omega) (by omega)) (F1.1 85 (by omega) (by omega) (by omega))
          refine ⟨nI 0, h1, gl, ?_, F1, rfl, T1, ⟨_, Q1⟩, by have := J1.2.2; omega⟩
          refine a_aload_0 rfl rfl ?_
          refine a_geti rfl rfl rfl (fun _ _ _ => rfl) ?_
          refine a_as (y := nI (1)) h18' ?_
          refine a_ifN_eq rfl rfl rfl (by omega) (fun c_19 => False.elim (by omega)) (fun _ => ?_)
          refine a_aload_0 rfl rfl ?_
          refine a_virtI rfl rfl (C1) (Nat.le_of_ble_eq_true rfl) ⟨rfl, rfl, rfl, rfl⟩ rfl rfl rfl (Nat.le_of_ble_eq_true rfl) rfl rfl ?_
          refine a_goto rfl rfl ?_
          refine a_istore_1 rfl rfl rfl ?_
          refine a_iload_1 rfl rfl ?_
          refine a_ifI_le rfl rfl rfl rfl (fun _ => ?_) (fun c_35 => False.elim (absurd c_35 (by decide)))
          refine a_iload_1 rfl rfl ?_
          refine a_if_ne rfl rfl rfl (fun _ => ?_) (fun c_41 => by first | exact absurd (by decide) c_41 | exact absurd c_41 (by decide))
          refine a_aload_0 rfl rfl ?_
          refine a_virtI rfl rfl (OV') (Nat.le_of_ble_eq_true rfl) ⟨rfl, rfl, rfl, rfl⟩ rfl rfl rfl (Nat.le_of_ble_eq_true rfl) rfl rfl ?_
          refine a_ifI_lt rfl rfl rfl rfl (fun _ => ?_) (fun c_51 => False.elim (c_51 (by decide)))
          refine a_aload_0 rfl rfl ?_
          refine a_iconst (v := (nI 1)) rfl rfl rfl ?_
          refine a_virt0 rfl rfl (C2) (Nat.le_of_ble_eq_true rfl) ⟨rfl, rfl, rfl, rfl⟩ rfl rfl rfl (Nat.le_of_ble_eq_true rfl) rfl rfl ?_
          refine a_iconst (v := (nI 0)) rfl rfl rfl ?_
          exact a_iret rfl rfl
        · rw [if_pos h0] at hp
          obtain rfl := Option.some.inj hp
          rw [oV_n h0] at OV
          have o64 := opn_lt a8
          refine ⟨nI 1, h, gl, ?_, FQ_refl, rfl, by decide, by decide, T'⟩
          refine a_aload_0 rfl rfl ?_
          refine a_geti rfl rfl rfl (fun _ _ _ => rfl) ?_
          refine a_as (y := nI (1)) h18' ?_
          refine a_ifN_eq rfl rfl rfl (by omega) (fun c_19 => False.elim (by omega)) (fun _ => ?_)
          refine a_aload_0 rfl rfl ?_
          refine a_virtI rfl rfl (C1) (Nat.le_of_ble_eq_true rfl) ⟨rfl, rfl, rfl, rfl⟩ rfl rfl rfl (Nat.le_of_ble_eq_true rfl) rfl rfl ?_
          refine a_goto rfl rfl ?_
          refine a_istore_1 rfl rfl rfl ?_
          refine a_iload_1 rfl rfl ?_
          refine a_ifI_le rfl rfl rfl rfl (fun _ => ?_) (fun c_35 => False.elim (absurd c_35 (by decide)))
          refine a_iload_1 rfl rfl ?_
          refine a_if_ne rfl rfl rfl (fun _ => ?_) (fun c_41 => by first | exact absurd (by decide) c_41 | exact absurd c_41 (by decide))
          refine a_aload_0 rfl rfl ?_
          refine a_virtI rfl rfl (OV) (Nat.le_of_ble_eq_true rfl) ⟨rfl, rfl, rfl, rfl⟩ rfl rfl rfl (Nat.le_of_ble_eq_true rfl) rfl rfl ?_
          refine a_ifN_lt rfl rfl rfl (by omega) (fun c_51 => False.elim (c_51)) (fun _ => ?_)
          refine a_iconst (v := (nI 1)) rfl rfl rfl ?_
          exact a_iret rfl rfl
      · obtain ⟨v1, h1, gl1, C1, R1⟩ := r_behind (L := L) (t := t) (lt := lt) (rt := rt) (rp := rp) (sw := sw) T' Q' J' hbp
        generalize hO (cdT b k) i P w = s at hp R1
        match s, hp, R1 with
        | .inl c', hp, ⟨F1, e0, RC'⟩ =>
          subst e0
          obtain ⟨v, h', gl', C, F, R⟩ := ih c' h1 gl1 r (.int (nI 0)) hp RC'
          refine ⟨v, h', gl', ?_, FQ_trans F1 F, R⟩
          refine a_aload_0 rfl rfl ?_
          refine a_geti rfl rfl rfl (fun _ _ _ => rfl) ?_
          refine a_as (y := nI (1)) h18' ?_
          refine a_ifN_eq rfl rfl rfl (by omega) (fun c_19 => False.elim (by omega)) (fun _ => ?_)
          refine a_aload_0 rfl rfl ?_
          refine a_virtI rfl rfl (C1) (Nat.le_of_ble_eq_true rfl) ⟨rfl, rfl, rfl, rfl⟩ rfl rfl rfl (Nat.le_of_ble_eq_true rfl) rfl rfl ?_
          refine a_goto rfl rfl ?_
          refine a_istore_1 rfl rfl rfl ?_
          refine a_iload_1 rfl rfl ?_
          refine a_ifN_le rfl rfl rfl (by omega) (fun _ => ?_) (fun c_35 => False.elim (by omega))
          refine a_iload_1 rfl rfl ?_
          refine a_ifN_ne rfl rfl rfl (by omega) (fun c_41 => False.elim (by omega)) (fun _ => ?_)
          refine a_goto rfl rfl ?_
          exact C
        | .inr (.inr (c, j)), hp, ⟨F1, e0, g1, g2, T1⟩ =>
          obtain rfl := Option.some.inj hp
          subst e0
          refine ⟨nI c, h1, gl1, ?_, F1, rfl, g1, g2, T1⟩
          refine a_aload_0 rfl rfl ?_
          refine a_geti rfl rfl rfl (fun _ _ _ => rfl) ?_
          refine a_as (y := nI (1)) h18' ?_
          refine a_ifN_eq rfl rfl rfl (by omega) (fun c_19 => False.elim (by omega)) (fun _ => ?_)
          refine a_aload_0 rfl rfl ?_
          refine a_virtI rfl rfl (C1) (Nat.le_of_ble_eq_true rfl) ⟨rfl, rfl, rfl, rfl⟩ rfl rfl rfl (Nat.le_of_ble_eq_true rfl) rfl rfl ?_
          refine a_goto rfl rfl ?_
          refine a_istore_1 rfl rfl rfl ?_
          refine a_iload_1 rfl rfl ?_
          refine a_ifN_le rfl rfl rfl (by omega) (fun c_35 => False.elim (by omega)) (fun _ => ?_)
          refine a_iload_1 rfl rfl ?_
          exact a_iret rfl rfl
        | .inr (.inl _), hp, ⟨_, z⟩ => exact z.elim
end RH
