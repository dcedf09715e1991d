/-! A CLAUSE, AND A TEXT: the reference -/
def FTx (x : Nat) (h h' : Nat → Nat → Int32) : Prop := (∀ o, o ≠ 81 → o ≠ 84 → o ≠ 86 → h' o = h o) ∧ (∀ j, j < 7 ∨ 19 < j → h' 81 j = h 81 j) ∧ ∀ q, q < 681 * x ∨ 681 * x + 681 ≤ q → h' 84 q = h 84 q
theorem FTx_refl {x : Nat} {h : Nat → Nat → Int32} : FTx x h h := ⟨fun _ _ _ _ => rfl, fun _ _ => rfl, fun _ _ => rfl⟩
theorem FTx_trans {x : Nat} {h h' h'' : Nat → Nat → Int32} (H : FTx x h h') (G : FTx x h' h'') : FTx x h h'' := ⟨fun o a b c => (G.1 o a b c).trans (H.1 o a b c), fun j a => (G.2.1 j a).trans (H.2.1 j a), fun j a => (G.2.2 j a).trans (H.2.2 j a)⟩
theorem FTx_81 {x : Nat} {h h' : Nat → Nat → Int32} (F : F81 h h') : FTx x h h' := ⟨fun o a _ _ => F.1 o (by simp; omega), fun j hj => F.2 j (by omega), fun q _ => by rw [F.1 84 rfl]⟩
theorem FTx_put {x o j : Nat} {h : Nat → Nat → Int32} {v : Int32} (ho : (o = 81 ∧ 7 ≤ j ∧ j ≤ 19) ∨ (o = 84 ∧ 681 * x ≤ j ∧ j < 681 * x + 681)) : FTx x h (mvPut h o j v) := by
  refine ⟨fun p a b c => put_ne (by omega), fun q a => ?_, fun q a => ?_⟩
  · rw [put_at, if_neg (by omega)]
  · rw [put_at, if_neg (by omega)]
/-- what a clause's reading says -/
def RXr (b : Nat → Nat) (k n x : Nat) (h : Nat → Nat → Int32) (r : Rc) (v : Int32) (h' : Nat → Nat → Int32) (gl' : Nat → Nat → Int64) : Prop := FTx x h h' ∧ match r with
  | .inl (X, j) => v = nI 0 ∧ ∃ w, RTx b k n x X j w h' gl'
  | .inr (c, j) => v = nI c ∧ 1 ≤ c ∧ c ≤ 6 ∧ TS b k n j h' gl'
theorem fgO_le {cd nm : Nat → Nat} {lo hi i a c j : Nat} {g : Nat → Nat → Rb} (H : fgO cd nm lo hi i g = .inl (a, c, j)) : g (nm i) (i + 1) = .inl (a, c, j) := by
  unfold fgO at H
  repeat' split at H
  all_goals first | exact H | exact absurd H (by simp)
theorem prO_le {cd nm : Nat → Nat} {m1 wd m2 i a c j : Nat} (H : prO cd nm m1 wd m2 i = .inl (a, c, j)) : i ≤ j := by
  unfold prO at H
  have H1 := fgO_le H
  split at H1
  · have H2 := fgO_le H1
    have e := congrArg (fun z : Nat × Nat × Nat => z.2.2) (Sum.inl.inj H2)
    have e' : i + 1 + 1 + 1 = j := e
    omega
  · exact absurd H1 (by simp)
theorem dbO_le {cd nm : Nat → Nat} {s i a c j : Nat} (H : dbO cd nm s i = .inl (a, c, j)) : i ≤ j := by
  unfold dbO at H
  repeat' split at H
  all_goals first | exact prO_le H | skip
  · have e : i + 1 = j := congrArg (fun z : Nat × Nat × Nat => z.2.2) (Sum.inl.inj (fgO_le H))
    omega
  · have e : i + 1 = j := congrArg (fun z : Nat × Nat × Nat => z.2.2) (Sum.inl.inj (fgO_le H))
    omega
  · have e : i = j := congrArg (fun z : Nat × Nat × Nat => z.2.2) (Sum.inl.inj H)
    omega
section RN
variable {L t : Nat} {lt rt rp : Option Nat} {sw : Bool} {b : Nat → Nat} {k n x i : Nat}
/-- behind the body: the semicolon -/
theorem l_stop {h : Nat → Nat → Int32} {gl : Nat → Nat → Int64} {X : Txt} {j c : Nat} {w : CdL} (H : RTx b k n x X j w (mvPut h 84 (681 * x) (nI (c + 1))) gl) (e12 : h 81 12 = nI (681 * x)) (ec : h 84 (681 * x) = nI c) (y1 y2 y3 : Value) (hy : mvIsL y3 = false) : ∀ r, stopO (cdT b k) X j = some r → ∃ v h' gl', avA 10 203 108 [.ref 81, y1, y2, y3, .int (nI 0)] [] (sX L t lt rt rp sw h gl) (some (.int v), sX L t lt rt rp sw h' gl') ∧ RXr b k n x h r v h' gl' := by
  intro r hp
  obtain ⟨T, ⟨a2, a3⟩, a4, a5, a6, a7, a8, a9, a10⟩ := id H
  obtain ⟨τ, W⟩ := rTk_W T.2.2.1
  have W' : tW (cdT b k j) (mvPut h 84 (681 * x) (nI (c + 1))) gl τ := W
  obtain ⟨w1, w2, w3, _⟩ := W'
  have t59 := (TR_iff w3).2.2.2.2.2.2.2.2.2.1
  clear w3
  unfold stopO at hp
  by_cases q : cdT b k j = 42
  · rw [if_pos q] at hp
    obtain rfl := Option.some.inj hp
    have hn := NT_lt T.2.1 T.2.2.2 (by omega)
    obtain ⟨h2, gl2, C2, F2, T2⟩ := r_nx (L := L) (t := t) (lt := lt) (rt := rt) (rp := rp) (sw := sw) T hn
    refine ⟨nI 0, h2, gl2, ?_, FTx_trans (FTx_put (by omega)) (FTx_81 F2), rfl, w, T2, ⟨(F2.2 12 (by omega)).trans a2, a3⟩, (F2.2 13 (by omega)).trans a4, by rw [F2.1 84 rfl]; exact a5, by omega, a7, by rw [F2.2 19 (by omega)]; exact a8, by rw [F2.1 84 rfl]; exact a9, by rw [F2.1 84 rfl]; exact a10⟩
    refine a_aload_0 rfl rfl ?_
    refine a_getr rfl rfl rfl (fun _ _ _ => rfl) rfl ?_
    refine a_aload_0 rfl rfl ?_
    refine a_geti rfl rfl rfl (fun _ _ _ => rfl) ?_
    refine a_as (y := nI (681 * x)) e12 ?_
    refine a_dup2 rfl rfl rfl ?_
    refine a_iald rfl rfl (Or.inl rfl) rfl (by omega) (by decide) ?_
    refine a_as (y := nI (c)) ec ?_
    refine a_iconst (v := (nI 1)) rfl rfl rfl ?_
    refine a_iaddN rfl rfl ?_
    refine a_iast rfl rfl rfl rfl (by omega) (by decide) ?_
    refine a_aload_0 rfl rfl ?_
    refine a_geti rfl rfl rfl (fun _ _ _ => rfl) ?_
    refine a_as (y := nI (τ)) w1 ?_
    refine a_bipush (v := (nI 59)) rfl rfl rfl ?_
    refine a_cmpN_eq rfl rfl rfl (by omega) (by omega) (fun _ => ?_) (fun c_127 => False.elim (by omega))
    refine a_aload_0 rfl rfl ?_
    refine a_virt0 rfl rfl (C2) (Nat.le_of_ble_eq_true rfl) ⟨rfl, rfl, rfl, rfl⟩ rfl rfl rfl (Nat.le_of_ble_eq_true rfl) rfl rfl ?_
    refine a_iconst (v := (nI 0)) rfl rfl rfl ?_
    exact a_iret rfl rfl
  · rw [if_neg q] at hp
    obtain rfl := Option.some.inj hp
    refine ⟨nI 1, mvPut h 84 (681 * x) (nI (c + 1)), gl, ?_, FTx_put (by omega), rfl, by decide, by decide, T⟩
    refine a_aload_0 rfl rfl ?_
    refine a_getr rfl rfl rfl (fun _ _ _ => rfl) rfl ?_
    refine a_aload_0 rfl rfl ?_
    refine a_geti rfl rfl rfl (fun _ _ _ => rfl) ?_
    refine a_as (y := nI (681 * x)) e12 ?_
    refine a_dup2 rfl rfl rfl ?_
    refine a_iald rfl rfl (Or.inl rfl) rfl (by omega) (by decide) ?_
    refine a_as (y := nI (c)) ec ?_
    refine a_iconst (v := (nI 1)) rfl rfl rfl ?_
    refine a_iaddN rfl rfl ?_
    refine a_iast rfl rfl rfl rfl (by omega) (by decide) ?_
    refine a_aload_0 rfl rfl ?_
    refine a_geti rfl rfl rfl (fun _ _ _ => rfl) ?_
    refine a_as (y := nI (τ)) w1 ?_
    refine a_bipush (v := (nI 59)) rfl rfl rfl ?_
    refine a_cmpN_eq rfl rfl rfl (by omega) (by omega) (fun c_127 => False.elim (by omega)) (fun _ => ?_)
    refine a_iconst (v := (nI 1)) rfl rfl rfl ?_
    exact a_iret rfl rfl
theorem r_clause {h : Nat → Nat → Int32} {gl : Nat → Nat → Int64} {X : Txt} {m : Nat} {w : CdL} {r : Rc} (H : RTx b k n x X i w h gl) (hp : clO (cdT b k) (nmT b k) m X i = some r) : ∃ v h' gl', avE 10 203 [.ref 81] (sX L t lt rt rp sw h gl) (some (.int v), sX L t lt rt rp sw h' gl') ∧ RXr b k n x h r v h' gl' := by
  obtain ⟨T, ⟨a2, a3⟩, a4, a5, a6, ⟨a7, a7'⟩, a8, ⟨a9, a9'⟩, a10⟩ := id H
  obtain ⟨τ, W⟩ := rTk_W T.2.2.1
  have SO := r_sortOf (L := L) (t := t) (lt := lt) (rt := rt) (rp := rp) (sw := sw) W
  have SO' : avE 5 204 [.ref 81] (sX L t lt rt rp sw h gl) (some (.int (sV2 (cdT b k i))), sX L t lt rt rp sw h gl) := SO
  clear SO W
  have cl : cdT b k i < 48 := (tk_lt b k (tP b k i)).1
  unfold clO at hp
  by_cases q1 : srt (cdT b k i) = 10
  · rw [if_pos q1] at hp
    obtain rfl := Option.some.inj hp
    have e : sV2 (cdT b k i) = -1 := if_pos q1
    rw [e] at SO'
    refine ⟨nI 1, h, gl, ?_, FTx_refl, rfl, by decide, by decide, T⟩
    show avA _ 203 0 [.ref 81, mvU, mvU, mvU, mvU] [] _ _
    refine a_aload_0 rfl rfl ?_
    refine a_virtI rfl rfl (SO') (Nat.le_of_ble_eq_true rfl) ⟨rfl, rfl, rfl, rfl⟩ rfl rfl rfl (Nat.le_of_ble_eq_true rfl) rfl rfl ?_
    refine a_istore_1 rfl rfl rfl ?_
    refine a_iload_1 rfl rfl ?_
    refine a_ifI_ge rfl rfl rfl rfl (fun c_6 => False.elim (absurd c_6 (by decide))) (fun _ => ?_)
    refine a_iconst (v := (nI 1)) rfl rfl rfl ?_
    exact a_iret rfl rfl
  rw [if_neg q1] at hp
  have ws := srt_wd _ q1
  have e : sV2 (cdT b k i) = nI (srt (cdT b k i)) := if_neg q1
  rw [e] at SO'
  have n46 : cdT b k i ≠ 46 := fun z => q1 (by rw [z]; rfl)
  generalize hs : srt (cdT b k i) = s at *
  have HA := fun hs3 => r_has (σ := sX L t lt rt rp sw h gl) (h 81 19) s hs3
  by_cases q2 : s < 3 ∧ (X.1 s).isSome = true
  · rw [if_pos q2] at hp
    obtain rfl := Option.some.inj hp
    refine ⟨nI 4, h, gl, ?_, FTx_refl, rfl, by decide, by decide, T⟩
    show avA _ 203 0 [.ref 81, mvU, mvU, mvU, mvU] [] _ _
    refine a_aload_0 rfl rfl ?_
    refine a_virtI rfl rfl (SO') (Nat.le_of_ble_eq_true rfl) ⟨rfl, rfl, rfl, rfl⟩ rfl rfl rfl (Nat.le_of_ble_eq_true rfl) rfl rfl ?_
    refine a_istore_1 rfl rfl rfl ?_
    refine a_iload_1 rfl rfl ?_
    refine a_ifN_ge rfl rfl rfl (by omega) (fun _ => ?_) (fun c_6 => False.elim (c_6))
    refine a_iload_1 rfl rfl ?_
    refine a_iconst (v := (nI 2)) rfl rfl rfl ?_
    refine a_cmpN_gt rfl rfl rfl (by omega) (by omega) (fun c_13 => False.elim (by omega)) (fun _ => ?_)
    refine a_aload_0 rfl rfl ?_
    refine a_geti rfl rfl rfl (fun _ _ _ => rfl) ?_
    refine a_iload_1 rfl rfl ?_
    refine a_statI rfl rfl (HA (by omega)) (Nat.le_of_ble_eq_true rfl) ⟨rfl, rfl, rfl⟩ rfl rfl rfl (Nat.le_of_ble_eq_true rfl) rfl ?_
    refine a_ifb_eq rfl rfl rfl (fun c_24 => by first | exact absurd c_24 (not_not_intro ((a8 s q2.1).trans q2.2)) | exact absurd (not_not_intro ((a8 s q2.1).trans q2.2)) c_24) (fun _ => ?_)
    refine a_iconst (v := (nI 4)) rfl rfl rfl ?_
    exact a_iret rfl rfl
  rw [if_neg q2] at hp
  have first : ∀ r', avA 10 203 29 [.ref 81, .int (nI s), mvU, mvU, mvU] [] (sX L t lt rt rp sw h gl) r' → avA 10 203 0 [.ref 81, mvU, mvU, mvU, mvU] [] (sX L t lt rt rp sw h gl) r' := by
    intro r' Z
    by_cases q3 : s < 3
    · show avA _ 203 0 [.ref 81, mvU, mvU, mvU, mvU] [] _ _
      refine a_aload_0 rfl rfl ?_
      refine a_virtI rfl rfl (SO') (Nat.le_of_ble_eq_true rfl) ⟨rfl, rfl, rfl, rfl⟩ rfl rfl rfl (Nat.le_of_ble_eq_true rfl) rfl rfl ?_
      refine a_istore_1 rfl rfl rfl ?_
      refine a_iload_1 rfl rfl ?_
      refine a_ifN_ge rfl rfl rfl (by omega) (fun _ => ?_) (fun c_6 => False.elim (c_6))
      refine a_iload_1 rfl rfl ?_
      refine a_iconst (v := (nI 2)) rfl rfl rfl ?_
      refine a_cmpN_gt rfl rfl rfl (by omega) (by omega) (fun c_13 => False.elim (by omega)) (fun _ => ?_)
      refine a_aload_0 rfl rfl ?_
      refine a_geti rfl rfl rfl (fun _ _ _ => rfl) ?_
      refine a_iload_1 rfl rfl ?_
      refine a_statI rfl rfl (HA (by omega)) (Nat.le_of_ble_eq_true rfl) ⟨rfl, rfl, rfl⟩ rfl rfl rfl (Nat.le_of_ble_eq_true rfl) rfl ?_
      refine a_ifb_eq rfl rfl rfl (fun _ => ?_) (fun c_24 => by first | exact absurd (fun z => q2 ⟨q3, (a8 s q3).symm.trans z⟩) c_24 | exact absurd c_24 (fun z => q2 ⟨q3, (a8 s q3).symm.trans z⟩))
      exact Z
    · show avA _ 203 0 [.ref 81, mvU, mvU, mvU, mvU] [] _ _
      refine a_aload_0 rfl rfl ?_
      refine a_virtI rfl rfl (SO') (Nat.le_of_ble_eq_true rfl) ⟨rfl, rfl, rfl, rfl⟩ rfl rfl rfl (Nat.le_of_ble_eq_true rfl) rfl rfl ?_
      refine a_istore_1 rfl rfl rfl ?_
      refine a_iload_1 rfl rfl ?_
      refine a_ifN_ge rfl rfl rfl (by omega) (fun _ => ?_) (fun c_6 => False.elim (c_6))
      refine a_iload_1 rfl rfl ?_
      refine a_iconst (v := (nI 2)) rfl rfl rfl ?_
      refine a_cmpN_gt rfl rfl rfl (by omega) (by omega) (fun _ => ?_) (fun c_13 => False.elim (by omega))
      exact Z
  by_cases q3 : 24 ≤ X.2.1
  · rw [if_pos q3] at hp
    obtain rfl := Option.some.inj hp
    refine ⟨nI 6, h, gl, first _ ?_, FTx_refl, rfl, by decide, by decide, T⟩
    refine a_aload_0 rfl rfl ?_
    refine a_getr rfl rfl rfl (fun _ _ _ => rfl) rfl ?_
    refine a_aload_0 rfl rfl ?_
    refine a_geti rfl rfl rfl (fun _ _ _ => rfl) ?_
    refine a_as (y := nI (681 * x)) a2 ?_
    refine a_iald rfl rfl (Or.inl rfl) rfl (by omega) (by decide) ?_
    refine a_as (y := nI (X.2.1)) a9 ?_
    refine a_istore_2 rfl rfl rfl ?_
    refine a_iload_2 rfl rfl ?_
    refine a_bipush (v := (nI 24)) rfl rfl rfl ?_
    refine a_cmpN_ne rfl rfl rfl (by omega) (by omega) (fun c_42 => False.elim (by omega)) (fun _ => ?_)
    refine a_bipush (v := (nI 6)) rfl rfl rfl ?_
    exact a_iret rfl rfl
  rw [if_neg q3] at hp
  have hn := NT_lt T.2.1 T.2.2.2 n46
  have inn := T.2.1.2.2
  by_cases q4 : s < 3
  · rw [if_pos q4] at hp
    have T1 : TS b k n i (mvPut (mvPut h 81 19 (h 81 19 ||| nI 1 <<< (nI s &&& 31))) 81 14 (nI s)) gl := TS_of T (fun j hj => (put_nj (by omega)).trans (put_nj (by omega))) ((put_ne (by omega)).trans (put_ne (by omega)))
    obtain ⟨h2, gl2, C2, F2, T2⟩ := r_nx (L := L) (t := t) (lt := lt) (rt := rt) (rp := rp) (sw := sw) T1 hn
    have g12 : h2 81 12 = nI (681 * x) := (F2.2 12 (by omega)).trans ((put_nj (by omega)).trans ((put_nj (by omega)).trans a2))
    have g84 : h2 84 = h 84 := (F2.1 84 rfl).trans ((put_ne (by omega)).trans (put_ne (by omega)))
    cases hpd : pd s (cdT b k) (nmT b k) m 3 (fun _ => 0) 0 (i + 1) with
    | none => rw [hpd] at hp; exact absurd hp (by simp)
    | some r0 =>
      rw [hpd] at hp
      have T3 : TS b k n (i + 1) (mvPut h2 84 (681 * x + 1 + 3 * X.2.1) (nI s)) gl2 := TS_of T2 (fun j hj => put_o (by omega)) (put_ne (by omega))
      obtain ⟨v, h4, gl4, C4, ⟨R4a, R4b, R4c⟩, R4⟩ := r_lawCl (L := L) (t := t) (lt := lt) (rt := rt) (rp := rp) (sw := sw) (ad := 681 * x + 1 + 3 * X.2.1) (w := w) T3 ((put_o (by omega)).trans g12) a3 ((put_o (by omega)).trans ((F2.2 14 (by omega)).trans put_eq)) q4 ((put_o (by omega)).trans ((F2.2 13 (by omega)).trans ((put_nj (by omega)).trans ((put_nj (by omega)).trans a4)))) (cR_ext a5 (fun q g1 _ => (put_nj (by omega)).trans (congrFun g84 q))) (by omega) (by omega) hpd
      have B4 : avE 9 212 [.ref 81, .int (nI s), .int (nI (681 * x + 1 + 3 * X.2.1))] (sX L t lt rt rp sw (mvPut h2 84 (681 * x + 1 + 3 * X.2.1) (nI s)) gl2) (some (.int v), sX L t lt rt rp sw h4 gl4) := by
        have tt : (nI s).toInt = (s : Int) := nI_toInt (by omega)
        show avA _ 212 0 [.ref 81, .int (nI (s)), .int (nI (681 * x + 1 + 3 * X.2.1))] [] _ _
        refine a_iload_1 rfl rfl ?_
        refine a_tabOut rfl (by rw [tt]; omega) rfl ?_
        refine a_aload_0 rfl rfl ?_
        refine a_iload_2 rfl rfl ?_
        refine a_virtI rfl rfl (C4) (Nat.le_of_ble_eq_true rfl) ⟨rfl, rfl, rfl, rfl⟩ rfl rfl rfl (Nat.le_of_ble_eq_true rfl) rfl rfl ?_
        exact a_iret rfl rfl
      have FF : FTx x h h4 := by
        refine ⟨fun o g1 g2 g3 => ?_, fun j hj => ?_, fun q hq => ?_⟩
        · rw [R4a o g1 g2 g3, put_ne g2, F2.1 o (by simp; omega)]; exact (put_ne g1).trans (put_ne g1)
        · rw [R4b j (by omega), put_o (by omega), F2.2 j (by omega)]; exact (put_nj (by omega)).trans (put_nj (by omega))
        · rw [R4c q (by omega) (by omega) (by omega), put_nj (by omega), g84]
      have walk : ∀ r', avA 10 203 98 [.ref 81, .int (nI s), .int (nI X.2.1), .int (nI (681 * x + 1 + 3 * X.2.1)), mvU] [.int v] (sX L t lt rt rp sw h4 gl4) r' → avA 10 203 29 [.ref 81, .int (nI s), mvU, mvU, mvU] [] (sX L t lt rt rp sw h gl) r' := by
        intro r' Z
        refine a_aload_0 rfl rfl ?_
        refine a_getr rfl rfl rfl (fun _ _ _ => rfl) rfl ?_
        refine a_aload_0 rfl rfl ?_
        refine a_geti rfl rfl rfl (fun _ _ _ => rfl) ?_
        refine a_as (y := nI (681 * x)) a2 ?_
        refine a_iald rfl rfl (Or.inl rfl) rfl (by omega) (by decide) ?_
        refine a_as (y := nI (X.2.1)) a9 ?_
        refine a_istore_2 rfl rfl rfl ?_
        refine a_iload_2 rfl rfl ?_
        refine a_bipush (v := (nI 24)) rfl rfl rfl ?_
        refine a_cmpN_ne rfl rfl rfl (by omega) (by omega) (fun _ => ?_) (fun c_42 => False.elim (by omega))
        refine a_iload_1 rfl rfl ?_
        refine a_iconst (v := (nI 2)) rfl rfl rfl ?_
        refine a_cmpN_gt rfl rfl rfl (by omega) (by omega) (fun c_50 => False.elim (by omega)) (fun _ => ?_)
        refine a_aload_0 rfl rfl ?_
        refine a_dup rfl rfl rfl ?_
        refine a_geti rfl rfl rfl (fun _ _ _ => rfl) ?_
        refine a_iconst (v := (nI 1)) rfl rfl rfl ?_
        refine a_iload_1 rfl rfl ?_
        refine a_ishl rfl rfl ?_
        refine a_ior rfl rfl ?_
        refine a_puti rfl rfl rfl rfl ?_
        refine a_aload_0 rfl rfl ?_
        refine a_iload_1 rfl rfl ?_
        refine a_puti rfl rfl rfl rfl ?_
        refine a_aload_0 rfl rfl ?_
        refine a_virt0 rfl rfl (C2) (Nat.le_of_ble_eq_true rfl) ⟨rfl, rfl, rfl, rfl⟩ rfl rfl rfl (Nat.le_of_ble_eq_true rfl) rfl rfl ?_
        refine a_aload_0 rfl rfl ?_
        refine a_geti rfl rfl rfl (fun _ _ _ => rfl) ?_
        refine a_as (y := nI (681 * x)) g12 ?_
        refine a_iconst (v := (nI 1)) rfl rfl rfl ?_
        refine a_iaddN rfl rfl ?_
        refine a_iconst (v := (nI 3)) rfl rfl rfl ?_
        refine a_iload_2 rfl rfl ?_
        refine a_imulN rfl rfl ?_
        refine a_iaddN rfl rfl ?_
        refine a_istore_3 rfl rfl rfl ?_
        refine a_aload_0 rfl rfl ?_
        refine a_getr rfl rfl rfl (fun _ _ _ => rfl) rfl ?_
        refine a_iload_3 rfl rfl ?_
        refine a_iload_1 rfl rfl ?_
        refine a_iast rfl rfl rfl rfl (by omega) (by decide) ?_
        refine a_aload_0 rfl rfl ?_
        refine a_iload_1 rfl rfl ?_
        refine a_iload_3 rfl rfl ?_
        refine a_virtI rfl rfl (B4) (Nat.le_of_ble_eq_true rfl) ⟨rfl, rfl, rfl, rfl⟩ rfl rfl rfl (Nat.le_of_ble_eq_true rfl) rfl rfl ?_
        exact Z
      match r0, hp, R4, hpd with
      | .inr (c, j), hp, ⟨e0, g1, g2, T4⟩, _ =>
        subst e0
        obtain rfl := Option.some.inj hp
        refine ⟨nI c, h4, gl4, first _ (walk _ ?_), FF, rfl, g1, by omega, T4⟩
        refine a_istore_4 rfl rfl rfl ?_
        refine a_iload_4 rfl rfl ?_
        refine a_ifN_eq rfl rfl rfl (by omega) (fun c_102 => False.elim (by omega)) (fun _ => ?_)
        refine a_iload_4 rfl rfl ?_
        exact a_iret rfl rfl
      | .inl (f, j), hp, ⟨e0, T4, seg, M, d1, d2, d3, d4, d5⟩, _ =>
        subst e0
        have hp' : stopO (cdT b k) (addX X s 0 0 (some f)) j = some r := hp
        have hX : X.1 s = none := by
          cases hX : X.1 s with
          | none => rfl
          | some f => exact absurd ⟨q4, by rw [hX]; rfl⟩ q2
        have ec4 : h4 84 (681 * x) = nI X.2.1 := by rw [R4c _ (by omega) (by omega) (by omega), put_nj (by omega), g84]; exact a9
        have e12' : h4 81 12 = nI (681 * x) := by rw [R4b 12 (by omega)]; exact (put_o (by omega)).trans g12
        have N := RT_add (j := j) (s := s) (a := 0) (c := 0) (seg := seg) (fo := some f) (h' := mvPut h4 84 (681 * x) (nI (X.2.1 + 1))) (gl' := gl4) H (by omega) (by omega) (Or.inl ⟨q4, hX, f, rfl, M⟩) (TS_of T4 (fun j _ => put_o (by omega)) (put_ne (by omega))) ((put_o (by omega)).trans e12') ((put_o (by omega)).trans d1) (cR_ext d2 (fun q g1 _ => put_nj (by omega))) d3 (fun q hq => ?_) (fun q g1 g2 g3 g4 g5 => ?_) put_eq ?_ (fun z => by omega) (fun z => by omega) (fun _ => ⟨(put_nj (by omega)).trans d4, (put_nj (by omega)).trans d5⟩)
        · obtain ⟨v2, h5, gl5, C5, R5⟩ := l_stop (L := L) (t := t) (lt := lt) (rt := rt) (rp := rp) (sw := sw) N e12' ec4 (.int (nI s)) (.int (nI X.2.1)) (.int (nI (681 * x + 1 + 3 * X.2.1))) rfl r hp'
          refine ⟨v2, h5, gl5, first _ (walk _ ?_), FTx_trans FF R5.1, R5.2⟩
          refine a_istore_4 rfl rfl rfl ?_
          refine a_iload_4 rfl rfl ?_
          refine a_ifN_eq rfl rfl rfl (by omega) (fun _ => ?_) (fun c_102 => absurd c_102 (by decide))
          exact C5
        · rw [put_o (by omega), R4b 19 (by omega), put_o (by omega), F2.2 19 (by omega), put_nj (by omega), put_eq, tb_or, tb_shl1 (by omega) (by omega)]
        · rw [put_nj g2, R4c q (by omega) g4 g5, put_nj g3, g84]
        · rw [put_nj (by omega), R4c _ (by omega) (by omega) (by omega)]; exact put_eq
  · rw [if_neg q4] at hp
    have T1 : TS b k n i (mvPut h 81 14 (nI s)) gl := TS_of T (fun j hj => put_nj (by omega)) (put_ne (by omega))
    obtain ⟨h2, gl2, C2, F2, T2⟩ := r_nx (L := L) (t := t) (lt := lt) (rt := rt) (rp := rp) (sw := sw) T1 hn
    have g12 : h2 81 12 = nI (681 * x) := (F2.2 12 (by omega)).trans ((put_nj (by omega)).trans a2)
    have g84 : h2 84 = h 84 := (F2.1 84 rfl).trans (put_ne (by omega))
    have T3 : TS b k n (i + 1) (mvPut h2 84 (681 * x + 1 + 3 * X.2.1) (nI s)) gl2 := TS_of T2 (fun j hj => put_o (by omega)) (put_ne (by omega))
    obtain ⟨v, h4, gl4, C4, ⟨R4a, R4b, R4c⟩, R4⟩ := r_deed (L := L) (t := t) (lt := lt) (rt := rt) (rp := rp) (sw := sw) T3 (681 * x + 1 + 3 * X.2.1) s (by omega) (by omega)
    have FF : FTx x h h4 := by
      refine ⟨fun o g1 g2 g3 => ?_, fun j hj => ?_, fun q hq => ?_⟩
      · rw [R4a o g1 g2, put_ne g2, F2.1 o (by simp; omega)]; exact put_ne g1
      · rw [R4b j (by omega), put_o (by omega), F2.2 j (by omega)]; exact put_nj (by omega)
      · rw [R4c q (by omega) (by omega), put_nj (by omega), g84]
    have walk : ∀ r', avA 10 203 98 [.ref 81, .int (nI s), .int (nI X.2.1), .int (nI (681 * x + 1 + 3 * X.2.1)), mvU] [.int v] (sX L t lt rt rp sw h4 gl4) r' → avA 10 203 29 [.ref 81, .int (nI s), mvU, mvU, mvU] [] (sX L t lt rt rp sw h gl) r' := by
      intro r' Z
      refine a_aload_0 rfl rfl ?_
      refine a_getr rfl rfl rfl (fun _ _ _ => rfl) rfl ?_
      refine a_aload_0 rfl rfl ?_
      refine a_geti rfl rfl rfl (fun _ _ _ => rfl) ?_
      refine a_as (y := nI (681 * x)) a2 ?_
      refine a_iald rfl rfl (Or.inl rfl) rfl (by omega) (by decide) ?_
      refine a_as (y := nI (X.2.1)) a9 ?_
      refine a_istore_2 rfl rfl rfl ?_
      refine a_iload_2 rfl rfl ?_
      refine a_bipush (v := (nI 24)) rfl rfl rfl ?_
      refine a_cmpN_ne rfl rfl rfl (by omega) (by omega) (fun _ => ?_) (fun c_42 => False.elim (by omega))
      refine a_iload_1 rfl rfl ?_
      refine a_iconst (v := (nI 2)) rfl rfl rfl ?_
      refine a_cmpN_gt rfl rfl rfl (by omega) (by omega) (fun _ => ?_) (fun c_50 => False.elim (by omega))
      refine a_aload_0 rfl rfl ?_
      refine a_iload_1 rfl rfl ?_
      refine a_puti rfl rfl rfl rfl ?_
      refine a_aload_0 rfl rfl ?_
      refine a_virt0 rfl rfl (C2) (Nat.le_of_ble_eq_true rfl) ⟨rfl, rfl, rfl, rfl⟩ rfl rfl rfl (Nat.le_of_ble_eq_true rfl) rfl rfl ?_
      refine a_aload_0 rfl rfl ?_
      refine a_geti rfl rfl rfl (fun _ _ _ => rfl) ?_
      refine a_as (y := nI (681 * x)) g12 ?_
      refine a_iconst (v := (nI 1)) rfl rfl rfl ?_
      refine a_iaddN rfl rfl ?_
      refine a_iconst (v := (nI 3)) rfl rfl rfl ?_
      refine a_iload_2 rfl rfl ?_
      refine a_imulN rfl rfl ?_
      refine a_iaddN rfl rfl ?_
      refine a_istore_3 rfl rfl rfl ?_
      refine a_aload_0 rfl rfl ?_
      refine a_getr rfl rfl rfl (fun _ _ _ => rfl) rfl ?_
      refine a_iload_3 rfl rfl ?_
      refine a_iload_1 rfl rfl ?_
      refine a_iast rfl rfl rfl rfl (by omega) (by decide) ?_
      refine a_aload_0 rfl rfl ?_
      refine a_iload_1 rfl rfl ?_
      refine a_iload_3 rfl rfl ?_
      refine a_virtI rfl rfl (C4) (Nat.le_of_ble_eq_true rfl) ⟨rfl, rfl, rfl, rfl⟩ rfl rfl rfl (Nat.le_of_ble_eq_true rfl) rfl rfl ?_
      exact Z
    generalize hd : dbO (cdT b k) (nmT b k) s (i + 1) = r0 at hp R4
    match r0, hp, R4, hd with
    | .inr (c, j), hp, ⟨e0, g1, T4⟩, _ =>
      subst e0
      obtain rfl := Option.some.inj hp
      refine ⟨nI c, h4, gl4, first _ (walk _ ?_), FF, rfl, by omega, by omega, T4⟩
      refine a_istore_4 rfl rfl rfl ?_
      refine a_iload_4 rfl rfl ?_
      refine a_ifN_eq rfl rfl rfl (by omega) (fun c_102 => False.elim (by omega)) (fun _ => ?_)
      refine a_iload_4 rfl rfl ?_
      exact a_iret rfl rfl
    | .inl (a, c, j), hp, ⟨e0, T4, d4, d5⟩, hd =>
      subst e0
      have hp' : stopO (cdT b k) (addX X s a c none) j = some r := hp
      have ec4 : h4 84 (681 * x) = nI X.2.1 := by rw [R4c _ (by omega) (by omega), put_nj (by omega), g84]; exact a9
      have e12' : h4 81 12 = nI (681 * x) := by rw [R4b 12 (by omega)]; exact (put_o (by omega)).trans g12
      have ij : i + 1 ≤ j := dbO_le hd
      have N := RT_add (j := j) (s := s) (a := a) (c := c) (seg := []) (fo := none) (h' := mvPut h4 84 (681 * x) (nI (X.2.1 + 1))) (gl' := gl4) H (by omega) (by omega) (Or.inr ⟨by omega, rfl⟩) (TS_of T4 (fun j _ => put_o (by omega)) (put_ne (by omega))) ((put_o (by omega)).trans e12') ((put_o (by omega)).trans (by rw [R4b 13 (by omega), put_o (by omega), F2.2 13 (by omega), put_nj (by omega)]; exact a4)) (cR_ext a5 (fun q g1 _ => by rw [put_nj (by omega), R4c q (by omega) (by omega), put_nj (by omega), g84])) (by show w.length ≤ j; omega) (fun q hq => ?_) (fun q g1 g2 g3 g4 g5 => ?_) put_eq ?_ (fun z => (put_nj (by omega)).trans (d4 z)) (fun z => (put_nj (by omega)).trans (d5 z)) (fun z => absurd z q4)
      · obtain ⟨v2, h5, gl5, C5, R5⟩ := l_stop (L := L) (t := t) (lt := lt) (rt := rt) (rp := rp) (sw := sw) N e12' ec4 (.int (nI s)) (.int (nI X.2.1)) (.int (nI (681 * x + 1 + 3 * X.2.1))) rfl r hp'
        refine ⟨v2, h5, gl5, first _ (walk _ ?_), FTx_trans FF R5.1, R5.2⟩
        refine a_istore_4 rfl rfl rfl ?_
        refine a_iload_4 rfl rfl ?_
        refine a_ifN_eq rfl rfl rfl (by omega) (fun _ => ?_) (fun c_102 => absurd c_102 (by decide))
        exact C5
      · rw [put_o (by omega), R4b 19 (by omega), put_o (by omega), F2.2 19 (by omega), put_nj (by omega)]
        simp
        intro z
        omega
      · rw [put_nj g2, R4c q g4 g5, put_nj g3, g84]
      · rw [put_nj (by omega), R4c _ (by omega) (by omega)]; exact put_eq
end RN
