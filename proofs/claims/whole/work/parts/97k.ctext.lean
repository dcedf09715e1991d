/-! A CLAUSE, AND A TEXT: the class -/
section CF
variable {L t : Nat} {lt : Option Nat} {sw : Bool} {gl : Nat → Nat → Int64} {b : Nat → Nat} {k n x : Nat}
theorem law_tells {h : Nat → Nat → Int32} {o s : Nat} {fo : Option (E1 → Int)} (H : lawC h o s fo) : h (o + 5) s ≠ -1 ↔ fo.isSome = true := by
  cases fo with
  | none => exact ⟨fun z => absurd H z, fun z => absurd z (by simp)⟩
  | some f =>
    obtain ⟨_, st, en, ln, a1, _, _, a4, a5, a6, _⟩ := H
    exact ⟨fun _ => rfl, fun _ => by rw [a1]; exact nI_ne_m1 (by omega)⟩
theorem CX_fail {X : Txt} {i len c p : Nat} {h : Nat → Nat → Int32} (H : CX b k n x X i len h) (hc : 1 ≤ c ∧ c ≤ 6) : DD b k n x (flS h c p) ∧ (flS h c p) 72 3 = nI c ∧ (flS h c p) 72 4 = nI p := by
  obtain ⟨law, A⟩ := CX_AL H
  obtain ⟨D, d1, d2, _⟩ := AL_fail (c := c) A (p := p) hc
  exact ⟨D, d1, d2⟩
theorem e_clause (hx : x < t) {X : Txt} {i len m : Nat} {h : Nat → Nat → Int32} {r : Rc} (H : CX b k n x X i len h) (hp : clO (cdT b k) (nmT b k) m X i = some r) : ∃ h', avE 81 55 [.ref 72, .int (nI (cdT b k i))] (sD L t lt x sw h gl) (none, sD L t lt x sw h' gl) ∧ RX b k n x h r h' := by
  obtain ⟨law, A⟩ := CX_AL H
  have l3 := (CA_at A.1).2.2.2
  have cn : h (98 + 7 * x) 3 = nI X.2.1 := H.2.2.2.2.2.2.2.2.1.1
  have ok24 : X.2.1 ≤ 24 := H.2.2.2.2.2.2.2.1.1
  have dd := isDeed_s (cdT b k i)
  have ld := isLaw_s (cdT b k i)
  unfold clO at hp
  have dead : ∀ c, 1 ≤ c ∧ c ≤ 6 → RX b k n x h (.inr (c, i)) (flS h c (tP b k i)) ∧ DD b k n x (flS h c (tP b k i)) ∧ (flS h c (tP b k i)) 72 3 = nI c := fun c hc => by
    obtain ⟨D, d1, d2⟩ := CX_fail (p := tP b k i) H hc
    exact ⟨⟨FL_FT, D, d1, d2⟩, D, d1⟩
  by_cases q1 : srt (cdT b k i) = 10
  · rw [if_pos q1] at hp
    obtain rfl := Option.some.inj hp
    obtain ⟨R, D, d1⟩ := dead 1 (by decide)
    refine ⟨_, ?_, R⟩
    show avA _ 55 0 [.ref 72, .int (nI (cdT b k i))] [] _ _
    refine a_iload_1 rfl rfl ?_
    refine a_statI rfl rfl (e_isLawS _ (by omega)) (Nat.le_of_ble_eq_true rfl) ⟨rfl, rfl, rfl⟩ rfl rfl rfl (Nat.le_of_ble_eq_true rfl) rfl ?_
    refine a_ifb_ne rfl rfl rfl (fun c_4 => False.elim (by omega)) (fun _ => ?_)
    refine a_iload_1 rfl rfl ?_
    refine a_statI rfl rfl (e_isDeedS _ (by omega)) (Nat.le_of_ble_eq_true rfl) ⟨rfl, rfl, rfl⟩ rfl rfl rfl (Nat.le_of_ble_eq_true rfl) rfl ?_
    refine a_ifb_ne rfl rfl rfl (fun c_11 => False.elim (by omega)) (fun _ => ?_)
    refine a_aload_0 rfl rfl ?_
    refine a_iconst (v := (nI 1)) rfl rfl rfl ?_
    refine a_virt0 rfl rfl (e_fail A 1) (Nat.le_of_ble_eq_true rfl) ⟨rfl, rfl, rfl, rfl⟩ rfl rfl rfl (Nat.le_of_ble_eq_true rfl) rfl rfl ?_
    refine a_goto rfl rfl ?_
    refine a_aload_0 rfl rfl ?_
    refine a_iload_1 rfl rfl ?_
    refine a_virt0 rfl rfl (e_takeD D _ (by omega)) (Nat.le_of_ble_eq_true rfl) ⟨rfl, rfl, rfl, rfl⟩ rfl rfl rfl (Nat.le_of_ble_eq_true rfl) rfl rfl ?_
    refine a_aload_0 rfl rfl ?_
    refine a_geti rfl rfl rfl (fun _ _ _ => rfl) ?_
    refine a_as (y := nI (1)) d1 ?_
    refine a_ifN_ne rfl rfl rfl (by omega) (fun _ => ?_) (fun c_78 => False.elim (by omega))
    exact a_vret rfl rfl
  rw [if_neg q1] at hp
  have ws := srt_wd _ q1
  by_cases q2 : srt (cdT b k i) < 3 ∧ (X.1 (srt (cdT b k i))).isSome = true
  · rw [if_pos q2] at hp
    obtain rfl := Option.some.inj hp
    obtain ⟨R, D, d1⟩ := dead 4 (by decide)
    have lt3 := H.2.2.2.2.2.2.2.2.2 _ q2.1
    have TL := e_tells (L := L) (lt := lt) (sw := sw) (gl := gl) (h := h) hx (srt (cdT b k i)) q2.1
    have e11 : cdT b k i - 11 = srt (cdT b k i) := by
      have z : wdOf (srt (cdT b k i)) = srt (cdT b k i) + 11 := by
        have q : srt (cdT b k i) = 0 ∨ srt (cdT b k i) = 1 ∨ srt (cdT b k i) = 2 := by omega
        rcases q with q | q | q <;> rw [q] <;> rfl
      omega
    refine ⟨_, ?_, R⟩
    show avA _ 55 0 [.ref 72, .int (nI (cdT b k i))] [] _ _
    refine a_iload_1 rfl rfl ?_
    refine a_statI rfl rfl (e_isLawS _ (by omega)) (Nat.le_of_ble_eq_true rfl) ⟨rfl, rfl, rfl⟩ rfl rfl rfl (Nat.le_of_ble_eq_true rfl) rfl ?_
    refine a_ifb_ne rfl rfl rfl (fun _ => ?_) (fun c_4 => by first | exact absurd q2.1 c_4 | exact absurd c_4 q2.1)
    refine a_iload_1 rfl rfl ?_
    refine a_statI rfl rfl (e_isLawS _ (by omega)) (Nat.le_of_ble_eq_true rfl) ⟨rfl, rfl, rfl⟩ rfl rfl rfl (Nat.le_of_ble_eq_true rfl) rfl ?_
    refine a_ifb_eq rfl rfl rfl (fun c_26 => by first | exact absurd c_26 (not_not_intro q2.1) | exact absurd (not_not_intro q2.1) c_26) (fun _ => ?_)
    refine a_aload_0 rfl rfl ?_
    refine a_getr rfl rfl rfl (fun _ _ _ => rfl) rfl ?_
    refine a_iload_1 rfl rfl ?_
    refine a_bipush (v := (nI 11)) rfl rfl rfl ?_
    refine a_isubN rfl rfl (by omega) ?_
    refine a_as (y := nI (srt (cdT b k i))) (congrArg nI e11) ?_
    refine a_virtI rfl rfl (TL) (Nat.le_of_ble_eq_true rfl) ⟨rfl, rfl, rfl, rfl⟩ rfl rfl rfl (Nat.le_of_ble_eq_true rfl) (congrArg Prod.fst (tx_t hx)) rfl ?_
    refine a_ifb_eq rfl rfl rfl (fun c_40 => by first | exact absurd c_40 (not_not_intro ((law_tells lt3).mpr q2.2)) | exact absurd (not_not_intro ((law_tells lt3).mpr q2.2)) c_40) (fun _ => ?_)
    refine a_aload_0 rfl rfl ?_
    refine a_iconst (v := (nI 4)) rfl rfl rfl ?_
    refine a_virt0 rfl rfl (e_fail A 4) (Nat.le_of_ble_eq_true rfl) ⟨rfl, rfl, rfl, rfl⟩ rfl rfl rfl (Nat.le_of_ble_eq_true rfl) rfl rfl ?_
    refine a_goto rfl rfl ?_
    refine a_aload_0 rfl rfl ?_
    refine a_iload_1 rfl rfl ?_
    refine a_virt0 rfl rfl (e_takeD D _ (by omega)) (Nat.le_of_ble_eq_true rfl) ⟨rfl, rfl, rfl, rfl⟩ rfl rfl rfl (Nat.le_of_ble_eq_true rfl) rfl rfl ?_
    refine a_aload_0 rfl rfl ?_
    refine a_geti rfl rfl rfl (fun _ _ _ => rfl) ?_
    refine a_as (y := nI (4)) d1 ?_
    refine a_ifN_ne rfl rfl rfl (by omega) (fun _ => ?_) (fun c_78 => False.elim (by omega))
    exact a_vret rfl rfl
  rw [if_neg q2] at hp
  have first : ∀ r', (avA 81 55 51 [.ref 72, .int (nI (cdT b k i))] [] (sD L t lt x sw h gl) r') → avA 81 55 0 [.ref 72, .int (nI (cdT b k i))] [] (sD L t lt x sw h gl) r' := by
    intro r' Z
    by_cases q3 : srt (cdT b k i) < 3
    · have lt3 := H.2.2.2.2.2.2.2.2.2 _ q3
      have TL := e_tells (L := L) (lt := lt) (sw := sw) (gl := gl) (h := h) hx (srt (cdT b k i)) q3
      have e11 : cdT b k i - 11 = srt (cdT b k i) := by
        have z : wdOf (srt (cdT b k i)) = srt (cdT b k i) + 11 := by
          have q : srt (cdT b k i) = 0 ∨ srt (cdT b k i) = 1 ∨ srt (cdT b k i) = 2 := by omega
          rcases q with q | q | q <;> rw [q] <;> rfl
        omega
      show avA _ 55 0 [.ref 72, .int (nI (cdT b k i))] [] _ _
      refine a_iload_1 rfl rfl ?_
      refine a_statI rfl rfl (e_isLawS _ (by omega)) (Nat.le_of_ble_eq_true rfl) ⟨rfl, rfl, rfl⟩ rfl rfl rfl (Nat.le_of_ble_eq_true rfl) rfl ?_
      refine a_ifb_ne rfl rfl rfl (fun _ => ?_) (fun c_4 => by first | exact absurd q3 c_4 | exact absurd c_4 q3)
      refine a_iload_1 rfl rfl ?_
      refine a_statI rfl rfl (e_isLawS _ (by omega)) (Nat.le_of_ble_eq_true rfl) ⟨rfl, rfl, rfl⟩ rfl rfl rfl (Nat.le_of_ble_eq_true rfl) rfl ?_
      refine a_ifb_eq rfl rfl rfl (fun c_26 => by first | exact absurd c_26 (not_not_intro q3) | exact absurd (not_not_intro q3) c_26) (fun _ => ?_)
      refine a_aload_0 rfl rfl ?_
      refine a_getr rfl rfl rfl (fun _ _ _ => rfl) rfl ?_
      refine a_iload_1 rfl rfl ?_
      refine a_bipush (v := (nI 11)) rfl rfl rfl ?_
      refine a_isubN rfl rfl (by omega) ?_
      refine a_as (y := nI (srt (cdT b k i))) (congrArg nI e11) ?_
      refine a_virtI rfl rfl (TL) (Nat.le_of_ble_eq_true rfl) ⟨rfl, rfl, rfl, rfl⟩ rfl rfl rfl (Nat.le_of_ble_eq_true rfl) (congrArg Prod.fst (tx_t hx)) rfl ?_
      refine a_ifb_eq rfl rfl rfl (fun _ => ?_) (fun c_40 => by first | exact absurd (fun z => q2 ⟨q3, (law_tells lt3).mp z⟩) c_40 | exact absurd c_40 (fun z => q2 ⟨q3, (law_tells lt3).mp z⟩))
      exact Z
    · show avA _ 55 0 [.ref 72, .int (nI (cdT b k i))] [] _ _
      refine a_iload_1 rfl rfl ?_
      refine a_statI rfl rfl (e_isLawS _ (by omega)) (Nat.le_of_ble_eq_true rfl) ⟨rfl, rfl, rfl⟩ rfl rfl rfl (Nat.le_of_ble_eq_true rfl) rfl ?_
      refine a_ifb_ne rfl rfl rfl (fun c_4 => by first | exact absurd c_4 q3 | exact absurd q3 c_4) (fun _ => ?_)
      refine a_iload_1 rfl rfl ?_
      refine a_statI rfl rfl (e_isDeedS _ (by omega)) (Nat.le_of_ble_eq_true rfl) ⟨rfl, rfl, rfl⟩ rfl rfl rfl (Nat.le_of_ble_eq_true rfl) rfl ?_
      refine a_ifb_ne rfl rfl rfl (fun _ => ?_) (fun c_11 => False.elim (by omega))
      refine a_iload_1 rfl rfl ?_
      refine a_statI rfl rfl (e_isLawS _ (by omega)) (Nat.le_of_ble_eq_true rfl) ⟨rfl, rfl, rfl⟩ rfl rfl rfl (Nat.le_of_ble_eq_true rfl) rfl ?_
      refine a_ifb_eq rfl rfl rfl (fun _ => ?_) (fun c_26 => by first | exact absurd q3 c_26 | exact absurd c_26 q3)
      exact Z
  by_cases q3 : 24 ≤ X.2.1
  · rw [if_pos q3] at hp
    obtain rfl := Option.some.inj hp
    obtain ⟨R, D, d1⟩ := dead 6 (by decide)
    refine ⟨_, first _ ?_, R⟩
    refine a_aload_0 rfl rfl ?_
    refine a_getr rfl rfl rfl (fun _ _ _ => rfl) rfl ?_
    refine a_geti rfl rfl (congrArg Prod.fst (tx_t hx)) (fun _ _ _ => rfl) ?_
    refine a_as (y := nI (X.2.1)) cn ?_
    refine a_bipush (v := (nI 24)) rfl rfl rfl ?_
    refine a_cmpN_lt rfl rfl rfl (by omega) (by omega) (fun c_60 => False.elim (by omega)) (fun _ => ?_)
    refine a_aload_0 rfl rfl ?_
    refine a_bipush (v := (nI 6)) rfl rfl rfl ?_
    refine a_virt0 rfl rfl (e_fail A 6) (Nat.le_of_ble_eq_true rfl) ⟨rfl, rfl, rfl, rfl⟩ rfl rfl rfl (Nat.le_of_ble_eq_true rfl) rfl rfl ?_
    refine a_aload_0 rfl rfl ?_
    refine a_iload_1 rfl rfl ?_
    refine a_virt0 rfl rfl (e_takeD D _ (by omega)) (Nat.le_of_ble_eq_true rfl) ⟨rfl, rfl, rfl, rfl⟩ rfl rfl rfl (Nat.le_of_ble_eq_true rfl) rfl rfl ?_
    refine a_aload_0 rfl rfl ?_
    refine a_geti rfl rfl rfl (fun _ _ _ => rfl) ?_
    refine a_as (y := nI (6)) d1 ?_
    refine a_ifN_ne rfl rfl rfl (by omega) (fun _ => ?_) (fun c_78 => False.elim (by omega))
    exact a_vret rfl rfl
  rw [if_neg q3] at hp
  have n46 : cdT b k i ≠ 46 := by omega
  have hin := CA_lt A.1 n46
  have H1 := CX_adv H hin
  have A1 := AL_adv A hin
  by_cases q4 : srt (cdT b k i) < 3
  · rw [if_pos q4] at hp
    cases hpd : pd (srt (cdT b k i)) (cdT b k) (nmT b k) m 3 (fun _ => 0) 0 (i + 1) with
    | none => rw [hpd] at hp; exact absurd hp (by simp)
    | some r0 =>
      rw [hpd] at hp
      obtain ⟨h2, C2, F2, R2⟩ := e_law (L := L) (lt := lt) (sw := sw) (gl := gl) hx H1 q4 (by omega) hpd
      rw [ws.1] at C2
      match r0, hp, R2 with
      | .inr (c, j), hp, ⟨D2, d3, d4⟩ =>
        obtain rfl := Option.some.inj hp
        refine ⟨h2, first _ ?_, FT_trans (FT_put (by omega)) F2, D2, d3, d4⟩
        refine a_aload_0 rfl rfl ?_
        refine a_getr rfl rfl rfl (fun _ _ _ => rfl) rfl ?_
        refine a_geti rfl rfl (congrArg Prod.fst (tx_t hx)) (fun _ _ _ => rfl) ?_
        refine a_as (y := nI (X.2.1)) cn ?_
        refine a_bipush (v := (nI 24)) rfl rfl rfl ?_
        refine a_cmpN_lt rfl rfl rfl (by omega) (by omega) (fun _ => ?_) (fun c_60 => False.elim (by omega))
        refine a_aload_0 rfl rfl ?_
        refine a_iload_1 rfl rfl ?_
        refine a_virt0 rfl rfl (e_takeT A rfl n46) (by omega) ⟨rfl, rfl, rfl, rfl⟩ rfl rfl rfl (Nat.le_of_ble_eq_true rfl) rfl rfl ?_
        refine a_aload_0 rfl rfl ?_
        refine a_geti rfl rfl rfl (fun _ _ _ => rfl) ?_
        refine a_as (y := nI (0)) A1.2.2.2.1 ?_
        refine a_ifN_ne rfl rfl rfl (by omega) (fun c_78 => False.elim (by omega)) (fun _ => ?_)
        refine a_iload_1 rfl rfl ?_
        refine a_statI rfl rfl (e_isLawS _ (by omega)) (by omega) ⟨rfl, rfl, rfl⟩ rfl rfl rfl (Nat.le_of_ble_eq_true rfl) rfl ?_
        refine a_ifb_eq rfl rfl rfl (fun c_85 => by first | exact absurd c_85 (not_not_intro q4) | exact absurd (not_not_intro q4) c_85) (fun _ => ?_)
        refine a_aload_0 rfl rfl ?_
        refine a_iload_1 rfl rfl ?_
        refine a_virt0 rfl rfl (C2) (by omega) ⟨rfl, rfl, rfl, rfl⟩ rfl rfl rfl (Nat.le_of_ble_eq_true rfl) rfl rfl ?_
        refine a_goto rfl rfl ?_
        refine a_aload_0 rfl rfl ?_
        refine a_bipush (v := (nI 42)) rfl rfl rfl ?_
        refine a_virt0 rfl rfl (e_takeD D2 42 (by decide)) (by omega) ⟨rfl, rfl, rfl, rfl⟩ rfl rfl rfl (Nat.le_of_ble_eq_true rfl) rfl rfl ?_
        exact a_vret rfl rfl
      | .inl (f, j), hp, ⟨len2, X2⟩ =>
        obtain ⟨law2, A2⟩ := CX_AL X2
        have hp' : stopO (cdT b k) (addX X (srt (cdT b k i)) 0 0 (some f)) j = some r := hp
        unfold stopO at hp'
        by_cases q5 : cdT b k j = 42
        · rw [if_pos q5] at hp'
          obtain rfl := Option.some.inj hp'
          have X3 := CX_adv X2 (CA_lt X2.1 (by omega))
          refine ⟨adv h2 j, first _ ?_, FT_trans (FT_put (o := 68) (j := 4) (v := nI (i + 1)) (by omega)) (FT_trans F2 (FT_put (by omega))), len2, X3⟩
          refine a_aload_0 rfl rfl ?_
          refine a_getr rfl rfl rfl (fun _ _ _ => rfl) rfl ?_
          refine a_geti rfl rfl (congrArg Prod.fst (tx_t hx)) (fun _ _ _ => rfl) ?_
          refine a_as (y := nI (X.2.1)) cn ?_
          refine a_bipush (v := (nI 24)) rfl rfl rfl ?_
          refine a_cmpN_lt rfl rfl rfl (by omega) (by omega) (fun _ => ?_) (fun c_60 => False.elim (by omega))
          refine a_aload_0 rfl rfl ?_
          refine a_iload_1 rfl rfl ?_
          refine a_virt0 rfl rfl (e_takeT A rfl n46) (by omega) ⟨rfl, rfl, rfl, rfl⟩ rfl rfl rfl (Nat.le_of_ble_eq_true rfl) rfl rfl ?_
          refine a_aload_0 rfl rfl ?_
          refine a_geti rfl rfl rfl (fun _ _ _ => rfl) ?_
          refine a_as (y := nI (0)) A1.2.2.2.1 ?_
          refine a_ifN_ne rfl rfl rfl (by omega) (fun c_78 => False.elim (by omega)) (fun _ => ?_)
          refine a_iload_1 rfl rfl ?_
          refine a_statI rfl rfl (e_isLawS _ (by omega)) (by omega) ⟨rfl, rfl, rfl⟩ rfl rfl rfl (Nat.le_of_ble_eq_true rfl) rfl ?_
          refine a_ifb_eq rfl rfl rfl (fun c_85 => by first | exact absurd c_85 (not_not_intro q4) | exact absurd (not_not_intro q4) c_85) (fun _ => ?_)
          refine a_aload_0 rfl rfl ?_
          refine a_iload_1 rfl rfl ?_
          refine a_virt0 rfl rfl (C2) (by omega) ⟨rfl, rfl, rfl, rfl⟩ rfl rfl rfl (Nat.le_of_ble_eq_true rfl) rfl rfl ?_
          refine a_goto rfl rfl ?_
          refine a_aload_0 rfl rfl ?_
          refine a_bipush (v := (nI 42)) rfl rfl rfl ?_
          refine a_virt0 rfl rfl (e_takeT A2 q5 (by decide)) (by omega) ⟨rfl, rfl, rfl, rfl⟩ rfl rfl rfl (Nat.le_of_ble_eq_true rfl) rfl rfl ?_
          exact a_vret rfl rfl
        · rw [if_neg q5] at hp'
          obtain rfl := Option.some.inj hp'
          obtain ⟨D, d1, d2⟩ := CX_fail (c := 1) (p := tP b k j) X2 (by decide)
          refine ⟨_, first _ ?_, FT_trans (FT_put (o := 68) (j := 4) (v := nI (i + 1)) (by omega)) (FT_trans F2 FL_FT), D, d1, d2⟩
          refine a_aload_0 rfl rfl ?_
          refine a_getr rfl rfl rfl (fun _ _ _ => rfl) rfl ?_
          refine a_geti rfl rfl (congrArg Prod.fst (tx_t hx)) (fun _ _ _ => rfl) ?_
          refine a_as (y := nI (X.2.1)) cn ?_
          refine a_bipush (v := (nI 24)) rfl rfl rfl ?_
          refine a_cmpN_lt rfl rfl rfl (by omega) (by omega) (fun _ => ?_) (fun c_60 => False.elim (by omega))
          refine a_aload_0 rfl rfl ?_
          refine a_iload_1 rfl rfl ?_
          refine a_virt0 rfl rfl (e_takeT A rfl n46) (by omega) ⟨rfl, rfl, rfl, rfl⟩ rfl rfl rfl (Nat.le_of_ble_eq_true rfl) rfl rfl ?_
          refine a_aload_0 rfl rfl ?_
          refine a_geti rfl rfl rfl (fun _ _ _ => rfl) ?_
          refine a_as (y := nI (0)) A1.2.2.2.1 ?_
          refine a_ifN_ne rfl rfl rfl (by omega) (fun c_78 => False.elim (by omega)) (fun _ => ?_)
          refine a_iload_1 rfl rfl ?_
          refine a_statI rfl rfl (e_isLawS _ (by omega)) (by omega) ⟨rfl, rfl, rfl⟩ rfl rfl rfl (Nat.le_of_ble_eq_true rfl) rfl ?_
          refine a_ifb_eq rfl rfl rfl (fun c_85 => by first | exact absurd c_85 (not_not_intro q4) | exact absurd (not_not_intro q4) c_85) (fun _ => ?_)
          refine a_aload_0 rfl rfl ?_
          refine a_iload_1 rfl rfl ?_
          refine a_virt0 rfl rfl (C2) (by omega) ⟨rfl, rfl, rfl, rfl⟩ rfl rfl rfl (Nat.le_of_ble_eq_true rfl) rfl rfl ?_
          refine a_goto rfl rfl ?_
          refine a_aload_0 rfl rfl ?_
          refine a_bipush (v := (nI 42)) rfl rfl rfl ?_
          refine a_virt0 rfl rfl (e_takeF A2 q5 (by decide)) (by omega) ⟨rfl, rfl, rfl, rfl⟩ rfl rfl rfl (Nat.le_of_ble_eq_true rfl) rfl rfl ?_
          exact a_vret rfl rfl
  · rw [if_neg q4] at hp
    obtain ⟨h2, C2, F2, R2⟩ := e_deed (L := L) (lt := lt) (sw := sw) (gl := gl) hx H1 (by omega : 3 ≤ srt (cdT b k i) ∧ srt (cdT b k i) < 10) (by omega)
    rw [ws.1] at C2
    generalize dbO (cdT b k) (nmT b k) (srt (cdT b k i)) (i + 1) = r0 at hp R2
    match r0, hp, R2 with
    | .inr (c, j), hp, ⟨D2, d3, d4⟩ =>
      obtain rfl := Option.some.inj hp
      refine ⟨h2, first _ ?_, FT_trans (FT_put (by omega)) F2, D2, d3, d4⟩
      refine a_aload_0 rfl rfl ?_
      refine a_getr rfl rfl rfl (fun _ _ _ => rfl) rfl ?_
      refine a_geti rfl rfl (congrArg Prod.fst (tx_t hx)) (fun _ _ _ => rfl) ?_
      refine a_as (y := nI (X.2.1)) cn ?_
      refine a_bipush (v := (nI 24)) rfl rfl rfl ?_
      refine a_cmpN_lt rfl rfl rfl (by omega) (by omega) (fun _ => ?_) (fun c_60 => False.elim (by omega))
      refine a_aload_0 rfl rfl ?_
      refine a_iload_1 rfl rfl ?_
      refine a_virt0 rfl rfl (e_takeT A rfl n46) (by omega) ⟨rfl, rfl, rfl, rfl⟩ rfl rfl rfl (Nat.le_of_ble_eq_true rfl) rfl rfl ?_
      refine a_aload_0 rfl rfl ?_
      refine a_geti rfl rfl rfl (fun _ _ _ => rfl) ?_
      refine a_as (y := nI (0)) A1.2.2.2.1 ?_
      refine a_ifN_ne rfl rfl rfl (by omega) (fun c_78 => False.elim (by omega)) (fun _ => ?_)
      refine a_iload_1 rfl rfl ?_
      refine a_statI rfl rfl (e_isLawS _ (by omega)) (by omega) ⟨rfl, rfl, rfl⟩ rfl rfl rfl (Nat.le_of_ble_eq_true rfl) rfl ?_
      refine a_ifb_eq rfl rfl rfl (fun _ => ?_) (fun c_85 => by first | exact absurd q4 c_85 | exact absurd c_85 q4)
      refine a_aload_0 rfl rfl ?_
      refine a_iload_1 rfl rfl ?_
      refine a_virt0 rfl rfl (C2) (by omega) ⟨rfl, rfl, rfl, rfl⟩ rfl rfl rfl (Nat.le_of_ble_eq_true rfl) rfl rfl ?_
      refine a_aload_0 rfl rfl ?_
      refine a_bipush (v := (nI 42)) rfl rfl rfl ?_
      refine a_virt0 rfl rfl (e_takeD D2 42 (by decide)) (by omega) ⟨rfl, rfl, rfl, rfl⟩ rfl rfl rfl (Nat.le_of_ble_eq_true rfl) rfl rfl ?_
      exact a_vret rfl rfl
    | .inl (a, c, j), hp, ⟨len2, X2⟩ =>
      obtain ⟨law2, A2⟩ := CX_AL X2
      have hp' : stopO (cdT b k) (addX X (srt (cdT b k i)) a c none) j = some r := hp
      unfold stopO at hp'
      by_cases q5 : cdT b k j = 42
      · rw [if_pos q5] at hp'
        obtain rfl := Option.some.inj hp'
        have X3 := CX_adv X2 (CA_lt X2.1 (by omega))
        refine ⟨adv h2 j, first _ ?_, FT_trans (FT_put (o := 68) (j := 4) (v := nI (i + 1)) (by omega)) (FT_trans F2 (FT_put (by omega))), len2, X3⟩
        refine a_aload_0 rfl rfl ?_
        refine a_getr rfl rfl rfl (fun _ _ _ => rfl) rfl ?_
        refine a_geti rfl rfl (congrArg Prod.fst (tx_t hx)) (fun _ _ _ => rfl) ?_
        refine a_as (y := nI (X.2.1)) cn ?_
        refine a_bipush (v := (nI 24)) rfl rfl rfl ?_
        refine a_cmpN_lt rfl rfl rfl (by omega) (by omega) (fun _ => ?_) (fun c_60 => False.elim (by omega))
        refine a_aload_0 rfl rfl ?_
        refine a_iload_1 rfl rfl ?_
        refine a_virt0 rfl rfl (e_takeT A rfl n46) (by omega) ⟨rfl, rfl, rfl, rfl⟩ rfl rfl rfl (Nat.le_of_ble_eq_true rfl) rfl rfl ?_
        refine a_aload_0 rfl rfl ?_
        refine a_geti rfl rfl rfl (fun _ _ _ => rfl) ?_
        refine a_as (y := nI (0)) A1.2.2.2.1 ?_
        refine a_ifN_ne rfl rfl rfl (by omega) (fun c_78 => False.elim (by omega)) (fun _ => ?_)
        refine a_iload_1 rfl rfl ?_
        refine a_statI rfl rfl (e_isLawS _ (by omega)) (by omega) ⟨rfl, rfl, rfl⟩ rfl rfl rfl (Nat.le_of_ble_eq_true rfl) rfl ?_
        refine a_ifb_eq rfl rfl rfl (fun _ => ?_) (fun c_85 => by first | exact absurd q4 c_85 | exact absurd c_85 q4)
        refine a_aload_0 rfl rfl ?_
        refine a_iload_1 rfl rfl ?_
        refine a_virt0 rfl rfl (C2) (by omega) ⟨rfl, rfl, rfl, rfl⟩ rfl rfl rfl (Nat.le_of_ble_eq_true rfl) rfl rfl ?_
        refine a_aload_0 rfl rfl ?_
        refine a_bipush (v := (nI 42)) rfl rfl rfl ?_
        refine a_virt0 rfl rfl (e_takeT A2 q5 (by decide)) (by omega) ⟨rfl, rfl, rfl, rfl⟩ rfl rfl rfl (Nat.le_of_ble_eq_true rfl) rfl rfl ?_
        exact a_vret rfl rfl
      · rw [if_neg q5] at hp'
        obtain rfl := Option.some.inj hp'
        obtain ⟨D, d1, d2⟩ := CX_fail (c := 1) (p := tP b k j) X2 (by decide)
        refine ⟨_, first _ ?_, FT_trans (FT_put (o := 68) (j := 4) (v := nI (i + 1)) (by omega)) (FT_trans F2 FL_FT), D, d1, d2⟩
        refine a_aload_0 rfl rfl ?_
        refine a_getr rfl rfl rfl (fun _ _ _ => rfl) rfl ?_
        refine a_geti rfl rfl (congrArg Prod.fst (tx_t hx)) (fun _ _ _ => rfl) ?_
        refine a_as (y := nI (X.2.1)) cn ?_
        refine a_bipush (v := (nI 24)) rfl rfl rfl ?_
        refine a_cmpN_lt rfl rfl rfl (by omega) (by omega) (fun _ => ?_) (fun c_60 => False.elim (by omega))
        refine a_aload_0 rfl rfl ?_
        refine a_iload_1 rfl rfl ?_
        refine a_virt0 rfl rfl (e_takeT A rfl n46) (by omega) ⟨rfl, rfl, rfl, rfl⟩ rfl rfl rfl (Nat.le_of_ble_eq_true rfl) rfl rfl ?_
        refine a_aload_0 rfl rfl ?_
        refine a_geti rfl rfl rfl (fun _ _ _ => rfl) ?_
        refine a_as (y := nI (0)) A1.2.2.2.1 ?_
        refine a_ifN_ne rfl rfl rfl (by omega) (fun c_78 => False.elim (by omega)) (fun _ => ?_)
        refine a_iload_1 rfl rfl ?_
        refine a_statI rfl rfl (e_isLawS _ (by omega)) (by omega) ⟨rfl, rfl, rfl⟩ rfl rfl rfl (Nat.le_of_ble_eq_true rfl) rfl ?_
        refine a_ifb_eq rfl rfl rfl (fun _ => ?_) (fun c_85 => by first | exact absurd q4 c_85 | exact absurd c_85 q4)
        refine a_aload_0 rfl rfl ?_
        refine a_iload_1 rfl rfl ?_
        refine a_virt0 rfl rfl (C2) (by omega) ⟨rfl, rfl, rfl, rfl⟩ rfl rfl rfl (Nat.le_of_ble_eq_true rfl) rfl rfl ?_
        refine a_aload_0 rfl rfl ?_
        refine a_bipush (v := (nI 42)) rfl rfl rfl ?_
        refine a_virt0 rfl rfl (e_takeF A2 q5 (by decide)) (by omega) ⟨rfl, rfl, rfl, rfl⟩ rfl rfl rfl (Nat.le_of_ble_eq_true rfl) rfl rfl ?_
        exact a_vret rfl rfl
theorem l_parseD {h : Nat → Nat → Int32} (H : DD b k n x h) (c : Nat) (hc : c ≤ 100) (d : Nat) : avA d 38 36 [.ref 72, .ref (98 + 7 * x), .ref 68, .int (nI c)] [] (sD L t lt x sw h gl) (none, sD L t lt x sw h gl) := by
  obtain ⟨_, ⟨c', e, h1, h2⟩, _⟩ := H
  refine a_iload_3 rfl rfl ?_
  refine a_bipush (v := (nI 24)) rfl rfl rfl ?_
  refine a_cmpN_gt rfl rfl rfl (by omega) (by omega) (fun c_39 => ?_) (fun c_39 => ?_)
  · exact a_vret rfl rfl
  · refine a_aload_0 rfl rfl ?_
    refine a_geti rfl rfl rfl (fun _ _ _ => rfl) ?_
    refine a_as (y := nI (c')) e ?_
    refine a_ifN_ne rfl rfl rfl (by omega) (fun _ => ?_) (fun c_46 => False.elim (by omega))
    exact a_vret rfl rfl
theorem clO_n {cd nm : Nat → Nat} {m i j : Nat} {X X' : Txt} (H : clO cd nm m X i = some (.inl (X', j))) : X'.2.1 = X.2.1 + 1 := by
  unfold clO stopO at H
  repeat' split at H
  all_goals first | (exact (congrArg (fun z : Txt × Nat => z.1.2.1) (Sum.inl.inj (Option.some.inj H))).symm) | (exact absurd (Option.some.inj H) (by simp)) | (exact absurd H (by simp))
/-- the text's clauses, one behind the other -/
theorem l_parse (hx : x < t) (m q : Nat) : ∀ (X : Txt) (i len c : Nat) (h : Nat → Nat → Int32) (r : Rc), txO (cdT b k) (nmT b k) m q X i = some r → CX b k n x X i len h → c = X.2.1 → ∃ h', avA 82 38 36 [.ref 72, .ref (98 + 7 * x), .ref 68, .int (nI c)] [] (sD L t lt x sw h gl) (none, sD L t lt x sw h' gl) ∧ RX b k n x h r h' := by
  induction q with
  | zero => intro X i len c h r hp; rw [txO] at hp; exact absurd hp (by simp)
  | succ q ih =>
    intro X i len c h r hp H hc
    have ok24 : X.2.1 ≤ 24 := H.2.2.2.2.2.2.2.1.1
    have l3 := (CA_at H.1).2.2.2
    have f0 : h 72 3 = nI 0 := H.2.2.1
    rw [txO] at hp
    by_cases q1 : cdT b k i = 46
    · rw [if_pos q1] at hp
      obtain rfl := Option.some.inj hp
      refine ⟨h, ?_, FT_refl, len, H⟩
      refine a_iload_3 rfl rfl ?_
      refine a_bipush (v := (nI 24)) rfl rfl rfl ?_
      refine a_cmpN_gt rfl rfl rfl (by omega) (by omega) (fun c_39 => False.elim (by omega)) (fun _ => ?_)
      refine a_aload_0 rfl rfl ?_
      refine a_geti rfl rfl rfl (fun _ _ _ => rfl) ?_
      refine a_as (y := nI (0)) f0 ?_
      refine a_ifN_ne rfl rfl rfl (by omega) (fun c_46 => False.elim (by omega)) (fun _ => ?_)
      refine a_aload_0 rfl rfl ?_
      refine a_getr rfl rfl rfl (fun _ _ _ => rfl) rfl ?_
      refine a_virtI rfl rfl (e_token H.1) (Nat.le_of_ble_eq_true rfl) ⟨rfl, rfl, rfl, rfl⟩ rfl rfl rfl (Nat.le_of_ble_eq_true rfl) rfl rfl ?_
      refine a_bipush (v := (nI 46)) rfl rfl rfl ?_
      refine a_cmpN_eq rfl rfl rfl (by omega) (by omega) (fun _ => ?_) (fun c_58 => False.elim (by omega))
      exact a_vret rfl rfl
    · rw [if_neg q1] at hp
      cases hcl : clO (cdT b k) (nmT b k) m X i with
      | none => rw [hcl] at hp; exact absurd hp (by simp)
      | some r0 =>
        rw [hcl] at hp
        obtain ⟨h2, C2, F2, R2⟩ := e_clause (L := L) (lt := lt) (sw := sw) (gl := gl) hx H hcl
        match r0, hp, R2, hcl with
        | .inr (c', j), hp, ⟨D2, d3, d4⟩, _ =>
          obtain rfl := Option.some.inj hp
          obtain ⟨_, ⟨c2, g1, g2, g3⟩, _⟩ := id D2
          refine ⟨h2, ?_, F2, D2, d3, d4⟩
          refine a_iload_3 rfl rfl ?_
          refine a_bipush (v := (nI 24)) rfl rfl rfl ?_
          refine a_cmpN_gt rfl rfl rfl (by omega) (by omega) (fun c_39 => False.elim (by omega)) (fun _ => ?_)
          refine a_aload_0 rfl rfl ?_
          refine a_geti rfl rfl rfl (fun _ _ _ => rfl) ?_
          refine a_as (y := nI (0)) f0 ?_
          refine a_ifN_ne rfl rfl rfl (by omega) (fun c_46 => False.elim (by omega)) (fun _ => ?_)
          refine a_aload_0 rfl rfl ?_
          refine a_getr rfl rfl rfl (fun _ _ _ => rfl) rfl ?_
          refine a_virtI rfl rfl (e_token H.1) (by omega) ⟨rfl, rfl, rfl, rfl⟩ rfl rfl rfl (Nat.le_of_ble_eq_true rfl) rfl rfl ?_
          refine a_bipush (v := (nI 46)) rfl rfl rfl ?_
          refine a_cmpN_eq rfl rfl rfl (by omega) (by omega) (fun c_58 => False.elim (by omega)) (fun _ => ?_)
          refine a_aload_0 rfl rfl ?_
          refine a_aload_0 rfl rfl ?_
          refine a_getr rfl rfl rfl (fun _ _ _ => rfl) rfl ?_
          refine a_virtI rfl rfl (e_token H.1) (by omega) ⟨rfl, rfl, rfl, rfl⟩ rfl rfl rfl (Nat.le_of_ble_eq_true rfl) rfl rfl ?_
          refine a_virt0 rfl rfl (C2) (by omega) ⟨rfl, rfl, rfl, rfl⟩ rfl rfl rfl (Nat.le_of_ble_eq_true rfl) rfl rfl ?_
          refine a_iinc_3 rfl rfl (nI_inc _ _) rfl ?_
          refine a_goto rfl rfl ?_
          exact l_parseD D2 (c + 1) (by omega) _
        | .inl (X', j), hp, ⟨len2, X2⟩, hcl =>
          have e24 : X'.2.1 = X.2.1 + 1 := clO_n hcl
          have hp' : txO (cdT b k) (nmT b k) m q X' j = some r := hp
          obtain ⟨h3, C3, F3, R3⟩ := ih X' j len2 (c + 1) h2 r hp' X2 (by omega)
          refine ⟨h3, ?_, FT_trans F2 F3, R3⟩
          refine a_iload_3 rfl rfl ?_
          refine a_bipush (v := (nI 24)) rfl rfl rfl ?_
          refine a_cmpN_gt rfl rfl rfl (by omega) (by omega) (fun c_39 => False.elim (by omega)) (fun _ => ?_)
          refine a_aload_0 rfl rfl ?_
          refine a_geti rfl rfl rfl (fun _ _ _ => rfl) ?_
          refine a_as (y := nI (0)) f0 ?_
          refine a_ifN_ne rfl rfl rfl (by omega) (fun c_46 => False.elim (by omega)) (fun _ => ?_)
          refine a_aload_0 rfl rfl ?_
          refine a_getr rfl rfl rfl (fun _ _ _ => rfl) rfl ?_
          refine a_virtI rfl rfl (e_token H.1) (by omega) ⟨rfl, rfl, rfl, rfl⟩ rfl rfl rfl (Nat.le_of_ble_eq_true rfl) rfl rfl ?_
          refine a_bipush (v := (nI 46)) rfl rfl rfl ?_
          refine a_cmpN_eq rfl rfl rfl (by omega) (by omega) (fun c_58 => False.elim (by omega)) (fun _ => ?_)
          refine a_aload_0 rfl rfl ?_
          refine a_aload_0 rfl rfl ?_
          refine a_getr rfl rfl rfl (fun _ _ _ => rfl) rfl ?_
          refine a_virtI rfl rfl (e_token H.1) (by omega) ⟨rfl, rfl, rfl, rfl⟩ rfl rfl rfl (Nat.le_of_ble_eq_true rfl) rfl rfl ?_
          refine a_virt0 rfl rfl (C2) (by omega) ⟨rfl, rfl, rfl, rfl⟩ rfl rfl rfl (Nat.le_of_ble_eq_true rfl) rfl rfl ?_
          refine a_iinc_3 rfl rfl (nI_inc _ _) rfl ?_
          refine a_goto rfl rfl ?_
          exact C3
end CF
