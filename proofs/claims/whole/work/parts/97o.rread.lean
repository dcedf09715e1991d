/-! A TEXT: the reference, and both ends -/
section RS
variable {L t : Nat} {lt rt rp : Option Nat} {sw : Bool} {b : Nat → Nat} {k n x : Nat}
theorem l_read (m q : Nat) : ∀ (X : Txt) (i : Nat) (w : CdL) (h : Nat → Nat → Int32) (gl : Nat → Nat → Int64) (r : Rc) (y : Value), txO (cdT b k) (nmT b k) m q X i = some r → RTx b k n x X i w h gl → ∃ v h' gl', avA 11 197 43 [.ref 81, y] [] (sX L t lt rt rp sw h gl) (some (.int v), sX L t lt rt rp sw h' gl') ∧ RXr b k n x h r v h' gl' := by
  induction q with
  | zero => intro X i w h gl r y hp; rw [txO] at hp; exact absurd hp (by simp)
  | succ q ih =>
    intro X i w h gl r y hp H
    obtain ⟨τ, W⟩ := rTk_W H.1.2.2.1
    have W' : tW (cdT b k i) h gl τ := W
    obtain ⟨w1, w2, w3, _⟩ := W'
    have t0 := (TR_iff w3).2.2.2.2.2.2.2.2.2.2.1
    clear w3
    rw [txO] at hp
    by_cases q1 : cdT b k i = 46
    · rw [if_pos q1] at hp
      obtain rfl := Option.some.inj hp
      refine ⟨nI 0, h, gl, ?_, FTx_refl, rfl, w, H⟩
      refine a_aload_0 rfl rfl ?_
      refine a_geti rfl rfl rfl (fun _ _ _ => rfl) ?_
      refine a_as (y := nI (τ)) w1 ?_
      refine a_ifN_eq rfl rfl rfl (by omega) (fun _ => ?_) (fun c_47 => False.elim (by omega))
      refine a_iconst (v := (nI 0)) rfl rfl rfl ?_
      exact a_iret rfl rfl
    · rw [if_neg q1] at hp
      cases hcl : clO (cdT b k) (nmT b k) m X i with
      | none => rw [hcl] at hp; exact absurd hp (by simp)
      | some r0 =>
        rw [hcl] at hp
        obtain ⟨v2, h2, gl2, C2, F2, R2⟩ := r_clause (L := L) (t := t) (lt := lt) (rt := rt) (rp := rp) (sw := sw) H hcl
        match r0, hp, R2 with
        | .inr (c, j), hp, ⟨e0, g1, g2, T2⟩ =>
          subst e0
          obtain rfl := Option.some.inj hp
          refine ⟨nI c, h2, gl2, ?_, F2, rfl, g1, g2, T2⟩
          refine a_aload_0 rfl rfl ?_
          refine a_geti rfl rfl rfl (fun _ _ _ => rfl) ?_
          refine a_as (y := nI (τ)) w1 ?_
          refine a_ifN_eq rfl rfl rfl (by omega) (fun c_47 => False.elim (by omega)) (fun _ => ?_)
          refine a_aload_0 rfl rfl ?_
          refine a_virtI rfl rfl (C2) (Nat.le_of_ble_eq_true rfl) ⟨rfl, rfl, rfl, rfl⟩ rfl rfl rfl (Nat.le_of_ble_eq_true rfl) rfl rfl ?_
          refine a_istore_1 rfl rfl rfl ?_
          refine a_iload_1 rfl rfl ?_
          refine a_ifN_eq rfl rfl rfl (by omega) (fun c_56 => False.elim (by omega)) (fun _ => ?_)
          refine a_iload_1 rfl rfl ?_
          exact a_iret rfl rfl
        | .inl (X', j), hp, ⟨e0, w', H2⟩ =>
          subst e0
          have hp' : txO (cdT b k) (nmT b k) m q X' j = some r := hp
          obtain ⟨v3, h3, gl3, C3, F3, R3⟩ := ih X' j w' h2 gl2 r (.int (nI 0)) hp' H2
          refine ⟨v3, h3, gl3, ?_, FTx_trans F2 F3, R3⟩
          refine a_aload_0 rfl rfl ?_
          refine a_geti rfl rfl rfl (fun _ _ _ => rfl) ?_
          refine a_as (y := nI (τ)) w1 ?_
          refine a_ifN_eq rfl rfl rfl (by omega) (fun c_47 => False.elim (by omega)) (fun _ => ?_)
          refine a_aload_0 rfl rfl ?_
          refine a_virtI rfl rfl (C2) (Nat.le_of_ble_eq_true rfl) ⟨rfl, rfl, rfl, rfl⟩ rfl rfl rfl (Nat.le_of_ble_eq_true rfl) rfl rfl ?_
          refine a_istore_1 rfl rfl rfl ?_
          refine a_iload_1 rfl rfl ?_
          refine a_ifN_eq rfl rfl rfl (by omega) (fun _ => ?_) (fun c_56 => False.elim (by omega))
          refine a_goto rfl rfl ?_
          exact C3
theorem r_readText {h : Nat → Nat → Int32} {gl : Nat → Nat → Int64} {m q : Nat} {r : Rc} (H : RP b k h) (N : NT b k n) (ha : h 82 1 = nI x) (hx : x < 4) (hp : txO (cdT b k) (nmT b k) m q X0 0 = some r) : ∃ v h' gl', avE 11 197 [.ref 81] (sX L t lt rt rp sw h gl) (some (.int v), sX L t lt rt rp sw h' gl') ∧ RXr b k n x h r v h' gl' := by
  have F1 : FTx x h (mvPut (mvPut (mvPut (mvPut (mvPut h 81 12 (nI (681 * x))) 84 (681 * x) (nI 0)) 81 13 (nI 0)) 81 19 (nI 0)) 81 7 (nI 0)) := FTx_trans (FTx_put (by omega)) (FTx_trans (FTx_put (by omega)) (FTx_trans (FTx_put (by omega)) (FTx_trans (FTx_put (by omega)) (FTx_put (by omega)))))
  have H1 : RP b k (mvPut (mvPut (mvPut (mvPut (mvPut h 81 12 (nI (681 * x))) 84 (681 * x) (nI 0)) 81 13 (nI 0)) 81 19 (nI 0)) 81 7 (nI 0)) := ⟨(F1.2.1 4 (by omega)).trans H.1, H.2.1, by rw [F1.1 85 (by omega) (by omega) (by omega)]; exact H.2.2⟩
  obtain ⟨h2, gl2, C2, F2, T2⟩ := r_next (L := L) (t := t) (lt := lt) (rt := rt) (rp := rp) (sw := sw) (gl := gl) H1 (Nat.zero_le _) put_eq
  have X : RTx b k n x X0 0 [] h2 gl2 := by
    refine ⟨⟨RP_f H1 F2, N, T2, Nat.zero_le _⟩, ⟨(F2.2 12 (by omega)).trans ((put_nj (by omega)).trans ((put_nj (by omega)).trans ((put_nj (by omega)).trans ((put_o (by omega)).trans put_eq)))), hx⟩, (F2.2 13 (by omega)).trans ((put_nj (by omega)).trans ((put_nj (by omega)).trans put_eq)), trivial, Nat.le_refl _, ⟨by decide, fun q hq => absurd hq (Nat.not_lt_zero _)⟩, fun s hs => ?_, ⟨?_, fun q hq => absurd hq (Nat.not_lt_zero _)⟩, fun s hs => ?_⟩
    · rw [F2.2 19 (by omega), put_nj (by omega), put_eq]; exact tb_0 s
    · rw [F2.1 84 rfl]; exact (put_o (by omega)).trans ((put_o (by omega)).trans ((put_o (by omega)).trans put_eq))
    · exact fun q hq => absurd hq (Nat.not_lt_zero _)
  obtain ⟨v, h3, gl3, C3, F3, R3⟩ := l_read (L := L) (t := t) (lt := lt) (rt := rt) (rp := rp) (sw := sw) m q X0 0 [] h2 gl2 r mvU hp X
  refine ⟨v, h3, gl3, ?_, FTx_trans F1 (FTx_trans (FTx_81 F2) F3), R3⟩
  show avA _ 197 0 [.ref 81, mvU] [] _ _
  refine a_aload_0 rfl rfl ?_
  refine a_sipush (v := (nI 681)) rfl rfl rfl ?_
  refine a_aload_0 rfl rfl ?_
  refine a_getr rfl rfl rfl (fun _ _ _ => rfl) rfl ?_
  refine a_iconst (v := (nI 1)) rfl rfl rfl ?_
  refine a_iald rfl rfl (Or.inl rfl) rfl (by omega) (by decide) ?_
  refine a_as (y := nI (x)) ha ?_
  refine a_imulN rfl rfl ?_
  refine a_puti rfl rfl rfl rfl ?_
  refine a_aload_0 rfl rfl ?_
  refine a_getr rfl rfl rfl (fun _ _ _ => rfl) rfl ?_
  refine a_aload_0 rfl rfl ?_
  refine a_geti rfl rfl rfl (fun _ _ _ => rfl) ?_
  refine a_as (y := nI (681 * x)) put_eq ?_
  refine a_iconst (v := (nI 0)) rfl rfl rfl ?_
  refine a_iast rfl rfl rfl rfl (by omega) (by decide) ?_
  refine a_aload_0 rfl rfl ?_
  refine a_iconst (v := (nI 0)) rfl rfl rfl ?_
  refine a_puti rfl rfl rfl rfl ?_
  refine a_aload_0 rfl rfl ?_
  refine a_iconst (v := (nI 0)) rfl rfl rfl ?_
  refine a_puti rfl rfl rfl rfl ?_
  refine a_aload_0 rfl rfl ?_
  refine a_iconst (v := (nI 0)) rfl rfl rfl ?_
  refine a_puti rfl rfl rfl rfl ?_
  refine a_aload_0 rfl rfl ?_
  refine a_virt0 rfl rfl (C2) (Nat.le_of_ble_eq_true rfl) ⟨rfl, rfl, rfl, rfl⟩ rfl rfl rfl (Nat.le_of_ble_eq_true rfl) rfl rfl ?_
  exact C3
end RS
/-! what both end with: the same text -/
theorem RT_txF {b : Nat → Nat} {k n x i : Nat} {X : Txt} {w : CdL} {h hc : Nat → Nat → Int32} {gl : Nat → Nat → Int64} {o : Nat} (H : RTx b k n x X i w h gl) (C : txC X hc o) (hw : w.length ≤ 300) : txF X (h 84) x := by
  obtain ⟨_, _, _, a5, _, ⟨a7, a7'⟩, _, a9, a10⟩ := H
  refine ⟨a9, fun s hs => ⟨X.2.1, a7, a9.1, ?_⟩⟩
  have l := a10 s hs
  have lc := C.2.2 s hs
  unfold lwI at l
  cases hX : X.1 s with
  | none =>
    rw [hX] at l
    intro q hq z
    have e := (nI_eq (by have := a7' q hq; omega) (by omega)).mp ((a9.2 q hq).1.symm.trans z)
    exact l q hq e
  | some f =>
    rw [hX] at l lc
    obtain ⟨q, seg, w0, w1, g1, g2, g3, g4, g5, g6, g7⟩ := l
    have lw : w.length = w1.length + (seg.length + w0.length) := by rw [g4, List.length_append, List.length_append]
    have cd : ∀ (w1 : CdL), cR (681 * x + 73) (w1 ++ (seg ++ w0)) (h 84) → cR (681 * x + 73) (seg ++ w0) (h 84) := fun w1 => by
      induction w1 with
      | nil => exact fun z => z
      | cons y w1 ih => exact fun z => ih z.2.2
    have c2 := cd w1 (by rw [← g4]; exact a5)
    refine ⟨lc.1, q, w0.length, w0.length + seg.length, g1, ?_, fun q' hq' z => ?_, g6, g7, by omega, by omega, Mn_Sg2 g5 c2 (by omega)⟩
    · rw [(a9.2 q g1).1, g2]
    · have e := (nI_eq (by have := a7' q' (by omega); omega) (by omega)).mp ((a9.2 q' (by omega)).1.symm.trans z)
      exact g3 q' hq' e
/-- reading a text ends -/
theorem clO_end {cd nm : Nat → Nat} {n i : Nat} {X : Txt} (hn : ∀ i, n ≤ i → cd i = 46) (hi : i ≤ n) (hc : cd i ≠ 46) : ∃ r, clO cd nm (10 * n + 20) X i = some r ∧ ∀ X' j, r = .inl (X', j) → i < j ∧ j ≤ n := by
  have i1 : i < n := by
    by_cases e : i < n
    · exact e
    · exact absurd (hn i (by omega)) hc
  have st : ∀ (X : Txt) (j : Nat), i + 1 ≤ j → ∃ r, stopO cd X j = some r ∧ ∀ X' j', r = .inl (X', j') → i < j' ∧ j' ≤ n := fun X j hj => by
    unfold stopO
    by_cases c : cd j = 42
    · rw [if_pos c]
      refine ⟨_, rfl, fun X' j' e => ?_⟩
      have e' : j + 1 = j' := congrArg Prod.snd (Sum.inl.inj e)
      have : j < n := by
        by_cases z : j < n
        · exact z
        · have := hn j (by omega); omega
      omega
    · rw [if_neg c]
      exact ⟨_, rfl, fun X' j' e => absurd e (by simp)⟩
  have bad : ∀ c : Nat × Nat, ∃ r : Rc, some (.inr c) = some r ∧ ∀ X' j, r = .inl (X', j) → i < j ∧ j ≤ n := fun c => ⟨_, rfl, fun X' j' e => absurd e (by simp)⟩
  unfold clO
  by_cases q1 : srt (cd i) = 10
  · rw [if_pos q1]; exact bad _
  rw [if_neg q1]
  by_cases q2 : srt (cd i) < 3 ∧ (X.1 (srt (cd i))).isSome = true
  · rw [if_pos q2]; exact bad _
  rw [if_neg q2]
  by_cases q3 : 24 ≤ X.2.1
  · rw [if_pos q3]; exact bad _
  rw [if_neg q3]
  by_cases q4 : srt (cd i) < 3
  · rw [if_pos q4]
    have E := pd_end (srt (cd i)) cd nm n hn (10 * n + 20) 3 (fun _ => 0) 0 (i + 1) (by omega) (by omega) (by show 10 * (n - (i + 1)) + 3 < 10 * n + 20; omega)
    rcases E with ⟨f, j, e, g1, g2, g3⟩ | ⟨c, j, e, _⟩
    · rw [e]
      exact st _ j g1
    · rw [e]
      exact bad _
  · rw [if_neg q4]
    generalize hd : dbO cd nm (srt (cd i)) (i + 1) = r0
    match r0, hd with
    | .inr z, _ => exact bad z
    | .inl (a, c, j), hd => exact st _ j (dbO_le hd)
theorem txO_end {cd nm : Nat → Nat} {n : Nat} (hn : ∀ i, n ≤ i → cd i = 46) (q : Nat) : ∀ (X : Txt) (i : Nat), i ≤ n → n - i < q → ∃ r, txO cd nm (10 * n + 20) q X i = some r := by
  induction q with
  | zero => intro X i _ h; omega
  | succ q ih =>
    intro X i hi hq
    rw [txO]
    by_cases c : cd i = 46
    · rw [if_pos c]; exact ⟨_, rfl⟩
    · rw [if_neg c]
      obtain ⟨r, e, g⟩ := clO_end (nm := nm) (X := X) hn hi c
      rw [e]
      match r, g with
      | .inr z, _ => exact ⟨_, rfl⟩
      | .inl (X', j), g =>
        obtain ⟨g1, g2⟩ := g X' j rfl
        exact ih X' j g2 (by omega)
