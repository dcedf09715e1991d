/-! THE CLASS READS: openings, one, and all by induction -/
section RP
variable {L t : Nat} {lt : Option Nat} {sw : Bool} {gl : Nat → Nat → Int64} {b : Nat → Nat} {k n x law : Nat}
theorem ng_B {f : E1 → Int} (h : fB f) : fB (fun E => -(f E)) := fun E hE => by
  have := h E hE
  show -1000000 ≤ -(f E) ∧ -(f E) ≤ 1000000
  omega
theorem RsC_bool {s0 len i D : Nat} {h h' : Nat → Nat → Int32} {r : Rs} {cnd : Bool} (H : RsC b k n x law s0 len i D cnd h r h') : RsC b k n x law s0 len i D false h r h' := by
  obtain ⟨F1, H⟩ := H
  refine ⟨F1, ?_⟩
  match r, H with
  | .inl (f, j), ⟨len', a1, a2, a3, a4, a5, a6, a7, a8, _⟩ => exact ⟨len', a1, a2, a3, a4, a5, a6, a7, a8, fun z => absurd z (by decide)⟩
  | .inr (c, j), H => exact H
/-- what an opening reads -/
def pdO (law : Nat) (cd nm : Nat → Nat) (m o i : Nat) : Option Rs := if cd i = 23 ∧ law = 0 then rBad 5 i
      else if 8 ≤ o then rBad 3 i
      else if cd i = 40 then rB (pd law cd nm m 3 (fun _ => 0) (o + 1) (i + 1)) fun f j => if cd j = 41 then rOk f (j + 1) else rBad 1 j
      else if cd i = 37 then rB (pd law cd nm m 0 (fun _ => 0) (o + 1) (i + 1)) fun f j => rOk (fun E => -(f E)) j
      else if cd i = 21 then rB (pd law cd nm m 0 (fun _ => 0) (o + 1) (i + 1)) fun f j => if cd j = 22 then rB (pd law cd nm m 0 (fun _ => 0) (o + 1) (j + 1)) (fun g j2 => rOk (bn 21 f g) j2) else rBad 1 j
      else if cd i = 23 then rB (pd law cd nm m 0 (fun _ => 0) (o + 1) (i + 1)) fun f j => rOk (fun E => E.2 (f E)) j
      else pdC law cd nm m (o + 1) (i + 1)
theorem pe_Opening (hx : x < t) (m : Nat) (I0 : PE L t lt sw gl b k n x law 0 66 5 1 false m) (I1 : PE L t lt sw gl b k n x law 5 73 10 6 true m) (I2 : PE L t lt sw gl b k n x law 3 64 7 3 false m) (o i len : Nat) (h : Nat → Nat → Int32) (r : Rs) (c : Nat) (hcd : cdT b k i = c) (q : c = 40 ∨ c = 37 ∨ c = 21 ∨ c = 23 ∨ c = 24) (hp : pdO law (cdT b k) (nmT b k) m o i = some r) (ho : o ≤ 8) (H : AL b k n x law i len h) : ∃ h', RsC b k n x law len len i (5 * (8 - o) + 1) false h r h' ∧ avE (8 * (8 - o) + 4) 71 [.ref 72, .int (nI c), .int (nI o)] (sD L t lt x sw h gl) (none, sD L t lt x sw h' gl) := by
  have l5 := H.1.2.2.2; have l6 := H.1.1.2.2.2.1; have l7 := H.2.2.2.2.2.1; have lw := H.2.2.1; have lw2 := H.2.1
  have hin := CA_lt H.1 (by omega)
  have A1 := AL_adv H hin
  unfold pdO at hp
  rw [hcd] at hp
  by_cases q5 : c = 23 ∧ law = 0
  · rw [if_pos q5] at hp
    obtain rfl := Option.some.inj hp
    obtain ⟨D1, d2, d3, d4⟩ := AL_fail (c := 5) H (p := tP b k i) (by decide)
    refine ⟨_, ⟨d4, D1, d2, d3⟩, ?_⟩
    show avA _ 71 0 [.ref 72, .int (nI (c)), .int (nI (o))] [] _ _
    refine a_iload_1 rfl rfl ?_
    refine a_bipush (v := (nI 23)) rfl rfl rfl ?_
    refine a_cmpN_ne rfl rfl rfl (by omega) (by omega) (fun c_3 => False.elim (by omega)) (fun _ => ?_)
    refine a_aload_0 rfl rfl ?_
    refine a_geti rfl rfl rfl (fun _ _ _ => rfl) ?_
    refine a_as (y := nI (law)) lw2 ?_
    refine a_ifN_ne rfl rfl rfl (by omega) (fun c_10 => False.elim (by omega)) (fun _ => ?_)
    refine a_aload_0 rfl rfl ?_
    refine a_iconst (v := (nI 5)) rfl rfl rfl ?_
    refine a_virt0 rfl rfl (e_fail H 5) (by omega) ⟨rfl, rfl, rfl, rfl⟩ rfl rfl rfl (Nat.le_of_ble_eq_true rfl) rfl rfl ?_
    refine a_goto rfl rfl ?_
    refine a_aload_0 rfl rfl ?_
    refine a_iload_1 rfl rfl ?_
    refine a_virt0 rfl rfl (e_takeD D1 c (by omega)) (by omega) ⟨rfl, rfl, rfl, rfl⟩ rfl rfl rfl (Nat.le_of_ble_eq_true rfl) rfl rfl ?_
    refine a_aload_0 rfl rfl ?_
    refine a_geti rfl rfl rfl (fun _ _ _ => rfl) ?_
    refine a_as (y := nI (5)) d2 ?_
    refine a_ifN_eq rfl rfl rfl (by omega) (fun c_41 => False.elim (by omega)) (fun _ => ?_)
    exact a_vret rfl rfl
  rw [if_neg q5] at hp
  by_cases q8 : 8 ≤ o
  · rw [if_pos q8] at hp
    obtain rfl := Option.some.inj hp
    obtain ⟨D1, d2, d3, d4⟩ := AL_fail (c := 3) H (p := tP b k i) (by decide)
    refine ⟨_, ⟨d4, D1, d2, d3⟩, ?_⟩
    show avA _ 71 0 [.ref 72, .int (nI (c)), .int (nI (o))] [] _ _
    refine a_iload_1 rfl rfl ?_
    refine a_bipush (v := (nI 23)) rfl rfl rfl ?_
    refine a_cmpN_ne rfl rfl rfl (by omega) (by omega) (fun c_3 => ?_) (fun c_3 => ?_)
    · refine a_iload_2 rfl rfl ?_
      refine a_bipush (v := (nI 8)) rfl rfl rfl ?_
      refine a_cmpN_lt rfl rfl rfl (by omega) (by omega) (fun c_24 => False.elim (by omega)) (fun _ => ?_)
      refine a_aload_0 rfl rfl ?_
      refine a_iconst (v := (nI 3)) rfl rfl rfl ?_
      refine a_virt0 rfl rfl (e_fail H 3) (by omega) ⟨rfl, rfl, rfl, rfl⟩ rfl rfl rfl (Nat.le_of_ble_eq_true rfl) rfl rfl ?_
      refine a_aload_0 rfl rfl ?_
      refine a_iload_1 rfl rfl ?_
      refine a_virt0 rfl rfl (e_takeD D1 c (by omega)) (by omega) ⟨rfl, rfl, rfl, rfl⟩ rfl rfl rfl (Nat.le_of_ble_eq_true rfl) rfl rfl ?_
      refine a_aload_0 rfl rfl ?_
      refine a_geti rfl rfl rfl (fun _ _ _ => rfl) ?_
      refine a_as (y := nI (3)) d2 ?_
      refine a_ifN_eq rfl rfl rfl (by omega) (fun c_41 => False.elim (by omega)) (fun _ => ?_)
      exact a_vret rfl rfl
    · refine a_aload_0 rfl rfl ?_
      refine a_geti rfl rfl rfl (fun _ _ _ => rfl) ?_
      refine a_as (y := nI (law)) lw2 ?_
      refine a_ifN_ne rfl rfl rfl (by omega) (fun _ => ?_) (fun c_10 => False.elim (by omega))
      refine a_iload_2 rfl rfl ?_
      refine a_bipush (v := (nI 8)) rfl rfl rfl ?_
      refine a_cmpN_lt rfl rfl rfl (by omega) (by omega) (fun c_24 => False.elim (by omega)) (fun _ => ?_)
      refine a_aload_0 rfl rfl ?_
      refine a_iconst (v := (nI 3)) rfl rfl rfl ?_
      refine a_virt0 rfl rfl (e_fail H 3) (by omega) ⟨rfl, rfl, rfl, rfl⟩ rfl rfl rfl (Nat.le_of_ble_eq_true rfl) rfl rfl ?_
      refine a_aload_0 rfl rfl ?_
      refine a_iload_1 rfl rfl ?_
      refine a_virt0 rfl rfl (e_takeD D1 c (by omega)) (by omega) ⟨rfl, rfl, rfl, rfl⟩ rfl rfl rfl (Nat.le_of_ble_eq_true rfl) rfl rfl ?_
      refine a_aload_0 rfl rfl ?_
      refine a_geti rfl rfl rfl (fun _ _ _ => rfl) ?_
      refine a_as (y := nI (3)) d2 ?_
      refine a_ifN_eq rfl rfl rfl (by omega) (fun c_41 => False.elim (by omega)) (fun _ => ?_)
      exact a_vret rfl rfl
  rw [if_neg q8] at hp
  have f1 : (adv h i) 72 3 = nI 0 := A1.2.2.2.1
  have q' : c = 40 ∨ c = 37 ∨ c = 23 ∨ c = 21 ∨ c = 24 := by omega
  rcases q' with rfl | rfl | rfl | rfl | rfl
  · rw [if_pos rfl] at hp
    rcases rB_cases hp with ⟨f, j, e1, e2⟩ | ⟨c', j, e1, rfl⟩
    · obtain ⟨h2, ⟨F2, len2, A2, a2, a3, a4, a5, a6, a7, a8, _⟩, C2⟩ := I2 _ (o + 1) (i + 1) len _ _ e1 (by omega) A1
      by_cases q1 : cdT b k j = 41
      · rw [if_pos q1] at e2
        obtain rfl := Option.some.inj e2
        have A3 := AL_adv A2 (CA_lt A2.1 (by omega))
        refine ⟨adv h2 j, ⟨FR_trans (adv_FR _) (FR_trans F2 (adv_FR _)), len2, A3, by omega, by omega, by omega, ?_, fun p g => (adv_c _ _).trans ((a6 p g).trans (adv_c _ _)), Sg1_mono (Sg1_cg a7 (fun p _ _ => adv_c _ _)) (by omega), a8, fun z => absurd z (by decide)⟩, ?_⟩
        · exact (adv_4 _).trans (a5.trans (adv_4 _))
        · show avA _ 71 0 [.ref 72, .int (nI 40), .int (nI (o))] [] _ _
          refine a_iload_1 rfl rfl ?_
          refine a_bipush (v := (nI 23)) rfl rfl rfl ?_
          refine a_cmpN_ne rfl rfl rfl (by omega) (by omega) (fun _ => ?_) (fun c_3 => absurd c_3 (by decide))
          refine a_iload_2 rfl rfl ?_
          refine a_bipush (v := (nI 8)) rfl rfl rfl ?_
          refine a_cmpN_lt rfl rfl rfl (by omega) (by omega) (fun _ => ?_) (fun c_24 => False.elim (by omega))
          refine a_aload_0 rfl rfl ?_
          refine a_iload_1 rfl rfl ?_
          refine a_virt0 rfl rfl (e_takeT H hcd (by omega)) (by omega) ⟨rfl, rfl, rfl, rfl⟩ rfl rfl rfl (Nat.le_of_ble_eq_true rfl) rfl rfl ?_
          refine a_aload_0 rfl rfl ?_
          refine a_geti rfl rfl rfl (fun _ _ _ => rfl) ?_
          refine a_as (y := nI (0)) f1 ?_
          refine a_ifN_eq rfl rfl rfl (by omega) (fun _ => ?_) (fun c_41 => False.elim (by omega))
          refine a_iload_1 rfl rfl ?_
          refine a_look (n := 88) rfl rfl ?_
          refine a_aload_0 rfl rfl ?_
          refine a_iload_2 rfl rfl ?_
          refine a_iconst (v := (nI 1)) rfl rfl rfl ?_
          refine a_iaddN rfl rfl ?_
          refine a_virt0 rfl rfl (C2) (by omega) ⟨rfl, rfl, rfl, rfl⟩ rfl rfl rfl (Nat.le_of_ble_eq_true rfl) rfl rfl ?_
          refine a_aload_0 rfl rfl ?_
          refine a_bipush (v := (nI 41)) rfl rfl rfl ?_
          refine a_virt0 rfl rfl (e_takeT A2 q1 (by decide)) (by omega) ⟨rfl, rfl, rfl, rfl⟩ rfl rfl rfl (Nat.le_of_ble_eq_true rfl) rfl rfl ?_
          refine a_goto rfl rfl ?_
          exact a_vret rfl rfl
      · rw [if_neg q1] at e2
        obtain rfl := Option.some.inj e2
        obtain ⟨D9, g1, g2, g3⟩ := AL_fail (c := 1) A2 (p := tP b k j) (by decide)
        refine ⟨_, ⟨FR_trans (adv_FR _) (FR_trans F2 g3), D9, g1, g2⟩, ?_⟩
        show avA _ 71 0 [.ref 72, .int (nI 40), .int (nI (o))] [] _ _
        refine a_iload_1 rfl rfl ?_
        refine a_bipush (v := (nI 23)) rfl rfl rfl ?_
        refine a_cmpN_ne rfl rfl rfl (by omega) (by omega) (fun _ => ?_) (fun c_3 => absurd c_3 (by decide))
        refine a_iload_2 rfl rfl ?_
        refine a_bipush (v := (nI 8)) rfl rfl rfl ?_
        refine a_cmpN_lt rfl rfl rfl (by omega) (by omega) (fun _ => ?_) (fun c_24 => False.elim (by omega))
        refine a_aload_0 rfl rfl ?_
        refine a_iload_1 rfl rfl ?_
        refine a_virt0 rfl rfl (e_takeT H hcd (by omega)) (by omega) ⟨rfl, rfl, rfl, rfl⟩ rfl rfl rfl (Nat.le_of_ble_eq_true rfl) rfl rfl ?_
        refine a_aload_0 rfl rfl ?_
        refine a_geti rfl rfl rfl (fun _ _ _ => rfl) ?_
        refine a_as (y := nI (0)) f1 ?_
        refine a_ifN_eq rfl rfl rfl (by omega) (fun _ => ?_) (fun c_41 => False.elim (by omega))
        refine a_iload_1 rfl rfl ?_
        refine a_look (n := 88) rfl rfl ?_
        refine a_aload_0 rfl rfl ?_
        refine a_iload_2 rfl rfl ?_
        refine a_iconst (v := (nI 1)) rfl rfl rfl ?_
        refine a_iaddN rfl rfl ?_
        refine a_virt0 rfl rfl (C2) (by omega) ⟨rfl, rfl, rfl, rfl⟩ rfl rfl rfl (Nat.le_of_ble_eq_true rfl) rfl rfl ?_
        refine a_aload_0 rfl rfl ?_
        refine a_bipush (v := (nI 41)) rfl rfl rfl ?_
        refine a_virt0 rfl rfl (e_takeF A2 q1 (by decide)) (by omega) ⟨rfl, rfl, rfl, rfl⟩ rfl rfl rfl (Nat.le_of_ble_eq_true rfl) rfl rfl ?_
        refine a_goto rfl rfl ?_
        exact a_vret rfl rfl
    · obtain ⟨h2, ⟨F2, D2, a3, a4⟩, C2⟩ := I2 _ (o + 1) (i + 1) len _ _ e1 (by omega) A1
      refine ⟨h2, ⟨FR_trans (adv_FR _) F2, D2, a3, a4⟩, ?_⟩
      show avA _ 71 0 [.ref 72, .int (nI 40), .int (nI (o))] [] _ _
      refine a_iload_1 rfl rfl ?_
      refine a_bipush (v := (nI 23)) rfl rfl rfl ?_
      refine a_cmpN_ne rfl rfl rfl (by omega) (by omega) (fun _ => ?_) (fun c_3 => absurd c_3 (by decide))
      refine a_iload_2 rfl rfl ?_
      refine a_bipush (v := (nI 8)) rfl rfl rfl ?_
      refine a_cmpN_lt rfl rfl rfl (by omega) (by omega) (fun _ => ?_) (fun c_24 => False.elim (by omega))
      refine a_aload_0 rfl rfl ?_
      refine a_iload_1 rfl rfl ?_
      refine a_virt0 rfl rfl (e_takeT H hcd (by omega)) (by omega) ⟨rfl, rfl, rfl, rfl⟩ rfl rfl rfl (Nat.le_of_ble_eq_true rfl) rfl rfl ?_
      refine a_aload_0 rfl rfl ?_
      refine a_geti rfl rfl rfl (fun _ _ _ => rfl) ?_
      refine a_as (y := nI (0)) f1 ?_
      refine a_ifN_eq rfl rfl rfl (by omega) (fun _ => ?_) (fun c_41 => False.elim (by omega))
      refine a_iload_1 rfl rfl ?_
      refine a_look (n := 88) rfl rfl ?_
      refine a_aload_0 rfl rfl ?_
      refine a_iload_2 rfl rfl ?_
      refine a_iconst (v := (nI 1)) rfl rfl rfl ?_
      refine a_iaddN rfl rfl ?_
      refine a_virt0 rfl rfl (C2) (by omega) ⟨rfl, rfl, rfl, rfl⟩ rfl rfl rfl (Nat.le_of_ble_eq_true rfl) rfl rfl ?_
      refine a_aload_0 rfl rfl ?_
      refine a_bipush (v := (nI 41)) rfl rfl rfl ?_
      refine a_virt0 rfl rfl (e_takeD D2 41 (by decide)) (by omega) ⟨rfl, rfl, rfl, rfl⟩ rfl rfl rfl (Nat.le_of_ble_eq_true rfl) rfl rfl ?_
      refine a_goto rfl rfl ?_
      exact a_vret rfl rfl
  · rw [if_neg (by decide)] at hp
    rw [if_pos rfl] at hp
    rcases rB_cases hp with ⟨f, j, e1, e2⟩ | ⟨c', j, e1, rfl⟩
    · obtain ⟨h2, ⟨F2, len2, A2, a2, a3, a4, a5, a6, a7, a8, _⟩, C2⟩ := I0 _ (o + 1) (i + 1) len _ _ e1 (by omega) A1
      obtain rfl := Option.some.inj e2
      obtain ⟨A3, F3, a10, a11⟩ := adS_AL A2 (by omega) (nI (0 * 64 + 48))
      have S : Sg1 law (fun E => -(f E)) ((adS x len2 (nI (0 * 64 + 48)) h2) (98 + 7 * x + 4)) len (len2 + 1) (5 * (8 - o) + 1) := Sg1_mono (Sg1_turn (Sg1_cg a7 (fun p _ hq => a10 p (by omega))) a11 (by omega)) (by omega)
      refine ⟨_, ⟨FR_trans (adv_FR _) (FR_trans F2 F3), len2 + 1, A3, by omega, by omega, by omega, ?_, fun p g => (a10 p (by omega)).trans ((a6 p (by omega)).trans (adv_c _ _)), S, ng_B a8, fun z => absurd z (by decide)⟩, ?_⟩
      · rw [adS_72 _ _ (by omega), a5]; exact adv_4 _
      · show avA _ 71 0 [.ref 72, .int (nI 37), .int (nI (o))] [] _ _
        refine a_iload_1 rfl rfl ?_
        refine a_bipush (v := (nI 23)) rfl rfl rfl ?_
        refine a_cmpN_ne rfl rfl rfl (by omega) (by omega) (fun _ => ?_) (fun c_3 => absurd c_3 (by decide))
        refine a_iload_2 rfl rfl ?_
        refine a_bipush (v := (nI 8)) rfl rfl rfl ?_
        refine a_cmpN_lt rfl rfl rfl (by omega) (by omega) (fun _ => ?_) (fun c_24 => False.elim (by omega))
        refine a_aload_0 rfl rfl ?_
        refine a_iload_1 rfl rfl ?_
        refine a_virt0 rfl rfl (e_takeT H hcd (by omega)) (by omega) ⟨rfl, rfl, rfl, rfl⟩ rfl rfl rfl (Nat.le_of_ble_eq_true rfl) rfl rfl ?_
        refine a_aload_0 rfl rfl ?_
        refine a_geti rfl rfl rfl (fun _ _ _ => rfl) ?_
        refine a_as (y := nI (0)) f1 ?_
        refine a_ifN_eq rfl rfl rfl (by omega) (fun _ => ?_) (fun c_41 => False.elim (by omega))
        refine a_iload_1 rfl rfl ?_
        refine a_look (n := 104) rfl rfl ?_
        refine a_aload_0 rfl rfl ?_
        refine a_iload_2 rfl rfl ?_
        refine a_iconst (v := (nI 1)) rfl rfl rfl ?_
        refine a_iaddN rfl rfl ?_
        refine a_virt0 rfl rfl (C2) (by omega) ⟨rfl, rfl, rfl, rfl⟩ rfl rfl rfl (Nat.le_of_ble_eq_true rfl) rfl rfl ?_
        refine a_aload_0 rfl rfl ?_
        refine a_getr rfl rfl rfl (fun _ _ _ => rfl) rfl ?_
        refine a_bipush (v := (nI 48)) rfl rfl rfl ?_
        refine a_iconst (v := (nI 0)) rfl rfl rfl ?_
        refine a_virt0 rfl rfl (e_addA hx A2 (by omega) (by omega) (by omega)) (by omega) ⟨rfl, rfl, rfl, rfl⟩ rfl rfl rfl (Nat.le_of_ble_eq_true rfl) (congrArg Prod.fst (tx_t hx)) rfl ?_
        refine a_goto rfl rfl ?_
        exact a_vret rfl rfl
    · obtain ⟨h2, ⟨F2, D2, a3, a4⟩, C2⟩ := I0 _ (o + 1) (i + 1) len _ _ e1 (by omega) A1
      refine ⟨dAdd x 48 0 h2, RsC_dt (FR_trans (adv_FR _) F2) (DT_add D2 _ _) a3 a4, ?_⟩
      show avA _ 71 0 [.ref 72, .int (nI 37), .int (nI (o))] [] _ _
      refine a_iload_1 rfl rfl ?_
      refine a_bipush (v := (nI 23)) rfl rfl rfl ?_
      refine a_cmpN_ne rfl rfl rfl (by omega) (by omega) (fun _ => ?_) (fun c_3 => absurd c_3 (by decide))
      refine a_iload_2 rfl rfl ?_
      refine a_bipush (v := (nI 8)) rfl rfl rfl ?_
      refine a_cmpN_lt rfl rfl rfl (by omega) (by omega) (fun _ => ?_) (fun c_24 => False.elim (by omega))
      refine a_aload_0 rfl rfl ?_
      refine a_iload_1 rfl rfl ?_
      refine a_virt0 rfl rfl (e_takeT H hcd (by omega)) (by omega) ⟨rfl, rfl, rfl, rfl⟩ rfl rfl rfl (Nat.le_of_ble_eq_true rfl) rfl rfl ?_
      refine a_aload_0 rfl rfl ?_
      refine a_geti rfl rfl rfl (fun _ _ _ => rfl) ?_
      refine a_as (y := nI (0)) f1 ?_
      refine a_ifN_eq rfl rfl rfl (by omega) (fun _ => ?_) (fun c_41 => False.elim (by omega))
      refine a_iload_1 rfl rfl ?_
      refine a_look (n := 104) rfl rfl ?_
      refine a_aload_0 rfl rfl ?_
      refine a_iload_2 rfl rfl ?_
      refine a_iconst (v := (nI 1)) rfl rfl rfl ?_
      refine a_iaddN rfl rfl ?_
      refine a_virt0 rfl rfl (C2) (by omega) ⟨rfl, rfl, rfl, rfl⟩ rfl rfl rfl (Nat.le_of_ble_eq_true rfl) rfl rfl ?_
      refine a_aload_0 rfl rfl ?_
      refine a_getr rfl rfl rfl (fun _ _ _ => rfl) rfl ?_
      refine a_bipush (v := (nI 48)) rfl rfl rfl ?_
      refine a_iconst (v := (nI 0)) rfl rfl rfl ?_
      refine a_virt0 rfl rfl (e_addD hx D2 (by omega) (by omega)) (by omega) ⟨rfl, rfl, rfl, rfl⟩ rfl rfl rfl (Nat.le_of_ble_eq_true rfl) (congrArg Prod.fst (tx_t hx)) rfl ?_
      refine a_goto rfl rfl ?_
      exact a_vret rfl rfl
  · rw [if_neg (by decide)] at hp
    rw [if_neg (by decide)] at hp
    rw [if_neg (by decide)] at hp
    rw [if_pos rfl] at hp
    rcases rB_cases hp with ⟨f, j, e1, e2⟩ | ⟨c', j, e1, rfl⟩
    · obtain ⟨h2, ⟨F2, len2, A2, a2, a3, a4, a5, a6, a7, a8, _⟩, C2⟩ := I0 _ (o + 1) (i + 1) len _ _ e1 (by omega) A1
      obtain rfl := Option.some.inj e2
      obtain ⟨A3, F3, a10, a11⟩ := adS_AL A2 (by omega) (nI (0 * 64 + 23))
      have S : Sg1 law (fun E => E.2 (f E)) ((adS x len2 (nI (0 * 64 + 23)) h2) (98 + 7 * x + 4)) len (len2 + 1) (5 * (8 - o) + 1) := Sg1_mono (Sg1_light (Sg1_cg a7 (fun p _ hq => a10 p (by omega))) (by omega) a11 (by omega)) (by omega)
      refine ⟨_, ⟨FR_trans (adv_FR _) (FR_trans F2 F3), len2 + 1, A3, by omega, by omega, by omega, ?_, fun p g => (a10 p (by omega)).trans ((a6 p (by omega)).trans (adv_c _ _)), S, (fun E hE => hE.2 _), fun z => absurd z (by decide)⟩, ?_⟩
      · rw [adS_72 _ _ (by omega), a5]; exact adv_4 _
      · show avA _ 71 0 [.ref 72, .int (nI 23), .int (nI (o))] [] _ _
        refine a_iload_1 rfl rfl ?_
        refine a_bipush (v := (nI 23)) rfl rfl rfl ?_
        refine a_cmpN_ne rfl rfl rfl (by omega) (by omega) (fun c_3 => absurd c_3 (by decide)) (fun _ => ?_)
        refine a_aload_0 rfl rfl ?_
        refine a_geti rfl rfl rfl (fun _ _ _ => rfl) ?_
        refine a_as (y := nI (law)) lw2 ?_
        refine a_ifN_ne rfl rfl rfl (by omega) (fun _ => ?_) (fun c_10 => False.elim (by omega))
        refine a_iload_2 rfl rfl ?_
        refine a_bipush (v := (nI 8)) rfl rfl rfl ?_
        refine a_cmpN_lt rfl rfl rfl (by omega) (by omega) (fun _ => ?_) (fun c_24 => False.elim (by omega))
        refine a_aload_0 rfl rfl ?_
        refine a_iload_1 rfl rfl ?_
        refine a_virt0 rfl rfl (e_takeT H hcd (by omega)) (by omega) ⟨rfl, rfl, rfl, rfl⟩ rfl rfl rfl (Nat.le_of_ble_eq_true rfl) rfl rfl ?_
        refine a_aload_0 rfl rfl ?_
        refine a_geti rfl rfl rfl (fun _ _ _ => rfl) ?_
        refine a_as (y := nI (0)) f1 ?_
        refine a_ifN_eq rfl rfl rfl (by omega) (fun _ => ?_) (fun c_41 => False.elim (by omega))
        refine a_iload_1 rfl rfl ?_
        refine a_look (n := 157) rfl rfl ?_
        refine a_aload_0 rfl rfl ?_
        refine a_iload_2 rfl rfl ?_
        refine a_iconst (v := (nI 1)) rfl rfl rfl ?_
        refine a_iaddN rfl rfl ?_
        refine a_virt0 rfl rfl (C2) (by omega) ⟨rfl, rfl, rfl, rfl⟩ rfl rfl rfl (Nat.le_of_ble_eq_true rfl) rfl rfl ?_
        refine a_aload_0 rfl rfl ?_
        refine a_getr rfl rfl rfl (fun _ _ _ => rfl) rfl ?_
        refine a_bipush (v := (nI 23)) rfl rfl rfl ?_
        refine a_iconst (v := (nI 0)) rfl rfl rfl ?_
        refine a_virt0 rfl rfl (e_addA hx A2 (by omega) (by omega) (by omega)) (by omega) ⟨rfl, rfl, rfl, rfl⟩ rfl rfl rfl (Nat.le_of_ble_eq_true rfl) (congrArg Prod.fst (tx_t hx)) rfl ?_
        refine a_goto rfl rfl ?_
        exact a_vret rfl rfl
    · obtain ⟨h2, ⟨F2, D2, a3, a4⟩, C2⟩ := I0 _ (o + 1) (i + 1) len _ _ e1 (by omega) A1
      refine ⟨dAdd x 23 0 h2, RsC_dt (FR_trans (adv_FR _) F2) (DT_add D2 _ _) a3 a4, ?_⟩
      show avA _ 71 0 [.ref 72, .int (nI 23), .int (nI (o))] [] _ _
      refine a_iload_1 rfl rfl ?_
      refine a_bipush (v := (nI 23)) rfl rfl rfl ?_
      refine a_cmpN_ne rfl rfl rfl (by omega) (by omega) (fun c_3 => absurd c_3 (by decide)) (fun _ => ?_)
      refine a_aload_0 rfl rfl ?_
      refine a_geti rfl rfl rfl (fun _ _ _ => rfl) ?_
      refine a_as (y := nI (law)) lw2 ?_
      refine a_ifN_ne rfl rfl rfl (by omega) (fun _ => ?_) (fun c_10 => False.elim (by omega))
      refine a_iload_2 rfl rfl ?_
      refine a_bipush (v := (nI 8)) rfl rfl rfl ?_
      refine a_cmpN_lt rfl rfl rfl (by omega) (by omega) (fun _ => ?_) (fun c_24 => False.elim (by omega))
      refine a_aload_0 rfl rfl ?_
      refine a_iload_1 rfl rfl ?_
      refine a_virt0 rfl rfl (e_takeT H hcd (by omega)) (by omega) ⟨rfl, rfl, rfl, rfl⟩ rfl rfl rfl (Nat.le_of_ble_eq_true rfl) rfl rfl ?_
      refine a_aload_0 rfl rfl ?_
      refine a_geti rfl rfl rfl (fun _ _ _ => rfl) ?_
      refine a_as (y := nI (0)) f1 ?_
      refine a_ifN_eq rfl rfl rfl (by omega) (fun _ => ?_) (fun c_41 => False.elim (by omega))
      refine a_iload_1 rfl rfl ?_
      refine a_look (n := 157) rfl rfl ?_
      refine a_aload_0 rfl rfl ?_
      refine a_iload_2 rfl rfl ?_
      refine a_iconst (v := (nI 1)) rfl rfl rfl ?_
      refine a_iaddN rfl rfl ?_
      refine a_virt0 rfl rfl (C2) (by omega) ⟨rfl, rfl, rfl, rfl⟩ rfl rfl rfl (Nat.le_of_ble_eq_true rfl) rfl rfl ?_
      refine a_aload_0 rfl rfl ?_
      refine a_getr rfl rfl rfl (fun _ _ _ => rfl) rfl ?_
      refine a_bipush (v := (nI 23)) rfl rfl rfl ?_
      refine a_iconst (v := (nI 0)) rfl rfl rfl ?_
      refine a_virt0 rfl rfl (e_addD hx D2 (by omega) (by omega)) (by omega) ⟨rfl, rfl, rfl, rfl⟩ rfl rfl rfl (Nat.le_of_ble_eq_true rfl) (congrArg Prod.fst (tx_t hx)) rfl ?_
      refine a_goto rfl rfl ?_
      exact a_vret rfl rfl
  · rw [if_neg (by decide)] at hp
    rw [if_neg (by decide)] at hp
    rw [if_pos rfl] at hp
    rcases rB_cases hp with ⟨f, j, e1, e2⟩ | ⟨c', j, e1, rfl⟩
    · obtain ⟨h2, ⟨F2, len2, A2, a2, a3, a4, a5, a6, a7, a8, _⟩, C2⟩ := I0 _ (o + 1) (i + 1) len _ _ e1 (by omega) A1
      have m2 := A2.2.2.2.2.2.1
      by_cases q1 : cdT b k j = 22
      · rw [if_pos q1] at e2
        have A3 := AL_adv A2 (CA_lt A2.1 (by omega))
        rcases rB_cases e2 with ⟨g, j2, e3, e4⟩ | ⟨c', j2, e3, rfl⟩
        · obtain ⟨h4, ⟨F4, len4, A4, b2, b3, b4, b5, b6, b7, b8, _⟩, C4⟩ := I0 _ (o + 1) (j + 1) len2 _ _ e3 (by omega) A3
          obtain rfl := Option.some.inj e4
          obtain ⟨A5, F5, a10, a11⟩ := adS_AL A4 (by omega) (nI (0 * 64 + 21))
          have ok : ∀ E, eOK E → jnOk 21 (f E) (g E) := fun E _ => Or.inl (by omega)
          have S : Sg1 law (bn 21 f g) ((adS x len4 (nI (0 * 64 + 21)) h4) (98 + 7 * x + 4)) len (len4 + 1) (5 * (8 - o) + 1) := Sg1_bin (Sg1_cg a7 (fun q _ hq => (a10 q (by omega)).trans ((b6 q hq).trans (adv_c _ _)))) (Sg1_cg b7 (fun q _ hq => a10 q (by omega))) a8 b8 ok (by omega) a11 (by omega) (by omega) (by omega) (by omega)
          refine ⟨_, ⟨FR_trans (adv_FR _) (FR_trans F2 (FR_trans (adv_FR _) (FR_trans F4 F5))), len4 + 1, A5, by omega, by omega, by omega, ?_, fun p g => (a10 p (by omega)).trans ((b6 p (by omega)).trans ((adv_c _ _).trans ((a6 p g).trans (adv_c _ _)))), S, bn_B a8 b8 ok, fun z => absurd z (by decide)⟩, ?_⟩
          · rw [adS_72 _ _ (by omega), b5]; exact (adv_4 _).trans (a5.trans (adv_4 _))
          · show avA _ 71 0 [.ref 72, .int (nI 21), .int (nI (o))] [] _ _
            refine a_iload_1 rfl rfl ?_
            refine a_bipush (v := (nI 23)) rfl rfl rfl ?_
            refine a_cmpN_ne rfl rfl rfl (by omega) (by omega) (fun _ => ?_) (fun c_3 => absurd c_3 (by decide))
            refine a_iload_2 rfl rfl ?_
            refine a_bipush (v := (nI 8)) rfl rfl rfl ?_
            refine a_cmpN_lt rfl rfl rfl (by omega) (by omega) (fun _ => ?_) (fun c_24 => False.elim (by omega))
            refine a_aload_0 rfl rfl ?_
            refine a_iload_1 rfl rfl ?_
            refine a_virt0 rfl rfl (e_takeT H hcd (by omega)) (by omega) ⟨rfl, rfl, rfl, rfl⟩ rfl rfl rfl (Nat.le_of_ble_eq_true rfl) rfl rfl ?_
            refine a_aload_0 rfl rfl ?_
            refine a_geti rfl rfl rfl (fun _ _ _ => rfl) ?_
            refine a_as (y := nI (0)) f1 ?_
            refine a_ifN_eq rfl rfl rfl (by omega) (fun _ => ?_) (fun c_41 => False.elim (by omega))
            refine a_iload_1 rfl rfl ?_
            refine a_look (n := 124) rfl rfl ?_
            refine a_aload_0 rfl rfl ?_
            refine a_iload_2 rfl rfl ?_
            refine a_iconst (v := (nI 1)) rfl rfl rfl ?_
            refine a_iaddN rfl rfl ?_
            refine a_virt0 rfl rfl (C2) (by omega) ⟨rfl, rfl, rfl, rfl⟩ rfl rfl rfl (Nat.le_of_ble_eq_true rfl) rfl rfl ?_
            refine a_aload_0 rfl rfl ?_
            refine a_bipush (v := (nI 22)) rfl rfl rfl ?_
            refine a_virt0 rfl rfl (e_takeT A2 q1 (by decide)) (by omega) ⟨rfl, rfl, rfl, rfl⟩ rfl rfl rfl (Nat.le_of_ble_eq_true rfl) rfl rfl ?_
            refine a_aload_0 rfl rfl ?_
            refine a_iload_2 rfl rfl ?_
            refine a_iconst (v := (nI 1)) rfl rfl rfl ?_
            refine a_iaddN rfl rfl ?_
            refine a_virt0 rfl rfl (C4) (by omega) ⟨rfl, rfl, rfl, rfl⟩ rfl rfl rfl (Nat.le_of_ble_eq_true rfl) rfl rfl ?_
            refine a_aload_0 rfl rfl ?_
            refine a_getr rfl rfl rfl (fun _ _ _ => rfl) rfl ?_
            refine a_bipush (v := (nI 21)) rfl rfl rfl ?_
            refine a_iconst (v := (nI 0)) rfl rfl rfl ?_
            refine a_virt0 rfl rfl (e_addA hx A4 (by omega) (by omega) (by omega)) (by omega) ⟨rfl, rfl, rfl, rfl⟩ rfl rfl rfl (Nat.le_of_ble_eq_true rfl) (congrArg Prod.fst (tx_t hx)) rfl ?_
            refine a_goto rfl rfl ?_
            exact a_vret rfl rfl
        · obtain ⟨h4, ⟨F4, D4, b3, b4⟩, C4⟩ := I0 _ (o + 1) (j + 1) len2 _ _ e3 (by omega) A3
          refine ⟨dAdd x 21 0 h4, RsC_dt (FR_trans (adv_FR _) (FR_trans F2 (FR_trans (adv_FR _) F4))) (DT_add D4 _ _) b3 b4, ?_⟩
          show avA _ 71 0 [.ref 72, .int (nI 21), .int (nI (o))] [] _ _
          refine a_iload_1 rfl rfl ?_
          refine a_bipush (v := (nI 23)) rfl rfl rfl ?_
          refine a_cmpN_ne rfl rfl rfl (by omega) (by omega) (fun _ => ?_) (fun c_3 => absurd c_3 (by decide))
          refine a_iload_2 rfl rfl ?_
          refine a_bipush (v := (nI 8)) rfl rfl rfl ?_
          refine a_cmpN_lt rfl rfl rfl (by omega) (by omega) (fun _ => ?_) (fun c_24 => False.elim (by omega))
          refine a_aload_0 rfl rfl ?_
          refine a_iload_1 rfl rfl ?_
          refine a_virt0 rfl rfl (e_takeT H hcd (by omega)) (by omega) ⟨rfl, rfl, rfl, rfl⟩ rfl rfl rfl (Nat.le_of_ble_eq_true rfl) rfl rfl ?_
          refine a_aload_0 rfl rfl ?_
          refine a_geti rfl rfl rfl (fun _ _ _ => rfl) ?_
          refine a_as (y := nI (0)) f1 ?_
          refine a_ifN_eq rfl rfl rfl (by omega) (fun _ => ?_) (fun c_41 => False.elim (by omega))
          refine a_iload_1 rfl rfl ?_
          refine a_look (n := 124) rfl rfl ?_
          refine a_aload_0 rfl rfl ?_
          refine a_iload_2 rfl rfl ?_
          refine a_iconst (v := (nI 1)) rfl rfl rfl ?_
          refine a_iaddN rfl rfl ?_
          refine a_virt0 rfl rfl (C2) (by omega) ⟨rfl, rfl, rfl, rfl⟩ rfl rfl rfl (Nat.le_of_ble_eq_true rfl) rfl rfl ?_
          refine a_aload_0 rfl rfl ?_
          refine a_bipush (v := (nI 22)) rfl rfl rfl ?_
          refine a_virt0 rfl rfl (e_takeT A2 q1 (by decide)) (by omega) ⟨rfl, rfl, rfl, rfl⟩ rfl rfl rfl (Nat.le_of_ble_eq_true rfl) rfl rfl ?_
          refine a_aload_0 rfl rfl ?_
          refine a_iload_2 rfl rfl ?_
          refine a_iconst (v := (nI 1)) rfl rfl rfl ?_
          refine a_iaddN rfl rfl ?_
          refine a_virt0 rfl rfl (C4) (by omega) ⟨rfl, rfl, rfl, rfl⟩ rfl rfl rfl (Nat.le_of_ble_eq_true rfl) rfl rfl ?_
          refine a_aload_0 rfl rfl ?_
          refine a_getr rfl rfl rfl (fun _ _ _ => rfl) rfl ?_
          refine a_bipush (v := (nI 21)) rfl rfl rfl ?_
          refine a_iconst (v := (nI 0)) rfl rfl rfl ?_
          refine a_virt0 rfl rfl (e_addD hx D4 (by omega) (by omega)) (by omega) ⟨rfl, rfl, rfl, rfl⟩ rfl rfl rfl (Nat.le_of_ble_eq_true rfl) (congrArg Prod.fst (tx_t hx)) rfl ?_
          refine a_goto rfl rfl ?_
          exact a_vret rfl rfl
      · rw [if_neg q1] at e2
        obtain rfl := Option.some.inj e2
        obtain ⟨D9, g1, g2, g3⟩ := AL_fail (c := 1) A2 (p := tP b k j) (by decide)
        refine ⟨dAdd x 21 0 (flS h2 1 (tP b k j)), RsC_dt (FR_trans (adv_FR _) (FR_trans F2 g3)) (DT_add D9 _ _) g1 g2, ?_⟩
        show avA _ 71 0 [.ref 72, .int (nI 21), .int (nI (o))] [] _ _
        refine a_iload_1 rfl rfl ?_
        refine a_bipush (v := (nI 23)) rfl rfl rfl ?_
        refine a_cmpN_ne rfl rfl rfl (by omega) (by omega) (fun _ => ?_) (fun c_3 => absurd c_3 (by decide))
        refine a_iload_2 rfl rfl ?_
        refine a_bipush (v := (nI 8)) rfl rfl rfl ?_
        refine a_cmpN_lt rfl rfl rfl (by omega) (by omega) (fun _ => ?_) (fun c_24 => False.elim (by omega))
        refine a_aload_0 rfl rfl ?_
        refine a_iload_1 rfl rfl ?_
        refine a_virt0 rfl rfl (e_takeT H hcd (by omega)) (by omega) ⟨rfl, rfl, rfl, rfl⟩ rfl rfl rfl (Nat.le_of_ble_eq_true rfl) rfl rfl ?_
        refine a_aload_0 rfl rfl ?_
        refine a_geti rfl rfl rfl (fun _ _ _ => rfl) ?_
        refine a_as (y := nI (0)) f1 ?_
        refine a_ifN_eq rfl rfl rfl (by omega) (fun _ => ?_) (fun c_41 => False.elim (by omega))
        refine a_iload_1 rfl rfl ?_
        refine a_look (n := 124) rfl rfl ?_
        refine a_aload_0 rfl rfl ?_
        refine a_iload_2 rfl rfl ?_
        refine a_iconst (v := (nI 1)) rfl rfl rfl ?_
        refine a_iaddN rfl rfl ?_
        refine a_virt0 rfl rfl (C2) (by omega) ⟨rfl, rfl, rfl, rfl⟩ rfl rfl rfl (Nat.le_of_ble_eq_true rfl) rfl rfl ?_
        refine a_aload_0 rfl rfl ?_
        refine a_bipush (v := (nI 22)) rfl rfl rfl ?_
        refine a_virt0 rfl rfl (e_takeF A2 q1 (by decide)) (by omega) ⟨rfl, rfl, rfl, rfl⟩ rfl rfl rfl (Nat.le_of_ble_eq_true rfl) rfl rfl ?_
        refine a_aload_0 rfl rfl ?_
        refine a_iload_2 rfl rfl ?_
        refine a_iconst (v := (nI 1)) rfl rfl rfl ?_
        refine a_iaddN rfl rfl ?_
        refine a_virt0 rfl rfl (e_OneD D9 (o + 1)) (by omega) ⟨rfl, rfl, rfl, rfl⟩ rfl rfl rfl (Nat.le_of_ble_eq_true rfl) rfl rfl ?_
        refine a_aload_0 rfl rfl ?_
        refine a_getr rfl rfl rfl (fun _ _ _ => rfl) rfl ?_
        refine a_bipush (v := (nI 21)) rfl rfl rfl ?_
        refine a_iconst (v := (nI 0)) rfl rfl rfl ?_
        refine a_virt0 rfl rfl (e_addD hx D9 (by omega) (by omega)) (by omega) ⟨rfl, rfl, rfl, rfl⟩ rfl rfl rfl (Nat.le_of_ble_eq_true rfl) (congrArg Prod.fst (tx_t hx)) rfl ?_
        refine a_goto rfl rfl ?_
        exact a_vret rfl rfl
    · obtain ⟨h2, ⟨F2, D2, a3, a4⟩, C2⟩ := I0 _ (o + 1) (i + 1) len _ _ e1 (by omega) A1
      refine ⟨dAdd x 21 0 h2, RsC_dt (FR_trans (adv_FR _) F2) (DT_add D2 _ _) a3 a4, ?_⟩
      show avA _ 71 0 [.ref 72, .int (nI 21), .int (nI (o))] [] _ _
      refine a_iload_1 rfl rfl ?_
      refine a_bipush (v := (nI 23)) rfl rfl rfl ?_
      refine a_cmpN_ne rfl rfl rfl (by omega) (by omega) (fun _ => ?_) (fun c_3 => absurd c_3 (by decide))
      refine a_iload_2 rfl rfl ?_
      refine a_bipush (v := (nI 8)) rfl rfl rfl ?_
      refine a_cmpN_lt rfl rfl rfl (by omega) (by omega) (fun _ => ?_) (fun c_24 => False.elim (by omega))
      refine a_aload_0 rfl rfl ?_
      refine a_iload_1 rfl rfl ?_
      refine a_virt0 rfl rfl (e_takeT H hcd (by omega)) (by omega) ⟨rfl, rfl, rfl, rfl⟩ rfl rfl rfl (Nat.le_of_ble_eq_true rfl) rfl rfl ?_
      refine a_aload_0 rfl rfl ?_
      refine a_geti rfl rfl rfl (fun _ _ _ => rfl) ?_
      refine a_as (y := nI (0)) f1 ?_
      refine a_ifN_eq rfl rfl rfl (by omega) (fun _ => ?_) (fun c_41 => False.elim (by omega))
      refine a_iload_1 rfl rfl ?_
      refine a_look (n := 124) rfl rfl ?_
      refine a_aload_0 rfl rfl ?_
      refine a_iload_2 rfl rfl ?_
      refine a_iconst (v := (nI 1)) rfl rfl rfl ?_
      refine a_iaddN rfl rfl ?_
      refine a_virt0 rfl rfl (C2) (by omega) ⟨rfl, rfl, rfl, rfl⟩ rfl rfl rfl (Nat.le_of_ble_eq_true rfl) rfl rfl ?_
      refine a_aload_0 rfl rfl ?_
      refine a_bipush (v := (nI 22)) rfl rfl rfl ?_
      refine a_virt0 rfl rfl (e_takeD D2 22 (by decide)) (by omega) ⟨rfl, rfl, rfl, rfl⟩ rfl rfl rfl (Nat.le_of_ble_eq_true rfl) rfl rfl ?_
      refine a_aload_0 rfl rfl ?_
      refine a_iload_2 rfl rfl ?_
      refine a_iconst (v := (nI 1)) rfl rfl rfl ?_
      refine a_iaddN rfl rfl ?_
      refine a_virt0 rfl rfl (e_OneD D2 (o + 1)) (by omega) ⟨rfl, rfl, rfl, rfl⟩ rfl rfl rfl (Nat.le_of_ble_eq_true rfl) rfl rfl ?_
      refine a_aload_0 rfl rfl ?_
      refine a_getr rfl rfl rfl (fun _ _ _ => rfl) rfl ?_
      refine a_bipush (v := (nI 21)) rfl rfl rfl ?_
      refine a_iconst (v := (nI 0)) rfl rfl rfl ?_
      refine a_virt0 rfl rfl (e_addD hx D2 (by omega) (by omega)) (by omega) ⟨rfl, rfl, rfl, rfl⟩ rfl rfl rfl (Nat.le_of_ble_eq_true rfl) (congrArg Prod.fst (tx_t hx)) rfl ?_
      refine a_goto rfl rfl ?_
      exact a_vret rfl rfl
  · rw [if_neg (by decide)] at hp
    rw [if_neg (by decide)] at hp
    rw [if_neg (by decide)] at hp
    rw [if_neg (by decide)] at hp
    obtain ⟨h2, R2, C2⟩ := pe_Choice hx m I1 I2 (o + 1) (i + 1) len _ r hp (by omega) A1
    refine ⟨h2, RsC_mono (RsC_pre R2 (adv_FR _) (Nat.le_refl _) (by omega) (by omega) (adv_4 _) (fun p _ => adv_c _ _)) (by omega), ?_⟩
    show avA _ 71 0 [.ref 72, .int (nI 24), .int (nI (o))] [] _ _
    refine a_iload_1 rfl rfl ?_
    refine a_bipush (v := (nI 23)) rfl rfl rfl ?_
    refine a_cmpN_ne rfl rfl rfl (by omega) (by omega) (fun _ => ?_) (fun c_3 => absurd c_3 (by decide))
    refine a_iload_2 rfl rfl ?_
    refine a_bipush (v := (nI 8)) rfl rfl rfl ?_
    refine a_cmpN_lt rfl rfl rfl (by omega) (by omega) (fun _ => ?_) (fun c_24 => False.elim (by omega))
    refine a_aload_0 rfl rfl ?_
    refine a_iload_1 rfl rfl ?_
    refine a_virt0 rfl rfl (e_takeT H hcd (by omega)) (by omega) ⟨rfl, rfl, rfl, rfl⟩ rfl rfl rfl (Nat.le_of_ble_eq_true rfl) rfl rfl ?_
    refine a_aload_0 rfl rfl ?_
    refine a_geti rfl rfl rfl (fun _ _ _ => rfl) ?_
    refine a_as (y := nI (0)) f1 ?_
    refine a_ifN_eq rfl rfl rfl (by omega) (fun _ => ?_) (fun c_41 => False.elim (by omega))
    refine a_iload_1 rfl rfl ?_
    refine a_look (n := 177) rfl rfl ?_
    refine a_aload_0 rfl rfl ?_
    refine a_iload_2 rfl rfl ?_
    refine a_iconst (v := (nI 1)) rfl rfl rfl ?_
    refine a_iaddN rfl rfl ?_
    refine a_virt0 rfl rfl (C2) (by omega) ⟨rfl, rfl, rfl, rfl⟩ rfl rfl rfl (Nat.le_of_ble_eq_true rfl) rfl rfl ?_
    exact a_vret rfl rfl
theorem e_nameT (hx : x < t) {c i len : Nat} {h : Nat → Nat → Int32} (H : AL b k n x law i len h) (hc : cdT b k i = c) (h1 : c < 11) (h2 : nmOk law c = true) : avE 3 70 [.ref 72, .int (nI c)] (sD L t lt x sw h gl) (none, sD L t lt x sw (adS x len (nI (0 * 64 + c)) (adv h i)) gl) := by
  have A1 := AL_adv H (CA_lt H.1 (by omega))
  have l7 := H.2.2.2.2.2.1; have lw := H.2.2.1
  show avA _ 70 0 [.ref 72, .int (nI (c))] [] _ _
  refine a_gets1 rfl rfl ?_
  refine a_iload_1 rfl rfl ?_
  refine a_iald rfl rfl (Or.inr rfl) rfl (by show c < 11; omega) (by decide) ?_
  refine a_as (y := msNames.getD c 0) (congrFun H.2.2.2.2.2.2 c) ?_
  refine a_aload_0 rfl rfl ?_
  refine a_geti rfl rfl rfl (fun _ _ _ => rfl) ?_
  refine a_as (y := nI (law)) H.2.1 ?_
  refine a_statI rfl rfl (e_has _ _ (by omega)) (Nat.le_of_ble_eq_true rfl) ⟨rfl, rfl, rfl⟩ rfl rfl rfl (Nat.le_of_ble_eq_true rfl) rfl ?_
  refine a_ifb_ne rfl rfl rfl (fun _ => ?_) (fun c_12 => by first | exact absurd ((nl_has law lw c h1).trans h2) c_12 | exact absurd c_12 ((nl_has law lw c h1).trans h2))
  refine a_aload_0 rfl rfl ?_
  refine a_iload_1 rfl rfl ?_
  refine a_virt0 rfl rfl (e_takeT H hc (by omega)) (Nat.le_of_ble_eq_true rfl) ⟨rfl, rfl, rfl, rfl⟩ rfl rfl rfl (Nat.le_of_ble_eq_true rfl) rfl rfl ?_
  refine a_aload_0 rfl rfl ?_
  refine a_getr rfl rfl rfl (fun _ _ _ => rfl) rfl ?_
  refine a_iload_1 rfl rfl ?_
  refine a_iconst (v := (nI 0)) rfl rfl rfl ?_
  refine a_virt0 rfl rfl (e_addA hx A1 (by omega) (by omega) (by omega)) (Nat.le_of_ble_eq_true rfl) ⟨rfl, rfl, rfl, rfl⟩ rfl rfl rfl (Nat.le_of_ble_eq_true rfl) (congrArg Prod.fst (tx_t hx)) rfl ?_
  exact a_vret rfl rfl
theorem e_nameF (hx : x < t) {c i len : Nat} {h : Nat → Nat → Int32} (H : AL b k n x law i len h) (h1 : c < 11) (h2 : ¬ nmOk law c = true) : avE 3 70 [.ref 72, .int (nI c)] (sD L t lt x sw h gl) (none, sD L t lt x sw (dAdd x c 0 (flS h 5 (tP b k i))) gl) := by
  have l7 := H.2.2.2.2.2.1; have lw := H.2.2.1
  obtain ⟨D9, g1, g2, g3⟩ := AL_fail (c := 5) H (p := tP b k i) (by decide)
  show avA _ 70 0 [.ref 72, .int (nI (c))] [] _ _
  refine a_gets1 rfl rfl ?_
  refine a_iload_1 rfl rfl ?_
  refine a_iald rfl rfl (Or.inr rfl) rfl (by show c < 11; omega) (by decide) ?_
  refine a_as (y := msNames.getD c 0) (congrFun H.2.2.2.2.2.2 c) ?_
  refine a_aload_0 rfl rfl ?_
  refine a_geti rfl rfl rfl (fun _ _ _ => rfl) ?_
  refine a_as (y := nI (law)) H.2.1 ?_
  refine a_statI rfl rfl (e_has _ _ (by omega)) (Nat.le_of_ble_eq_true rfl) ⟨rfl, rfl, rfl⟩ rfl rfl rfl (Nat.le_of_ble_eq_true rfl) rfl ?_
  refine a_ifb_ne rfl rfl rfl (fun c_12 => by first | exact absurd c_12 (fun z => h2 ((nl_has law lw c h1).symm.trans z)) | exact absurd (fun z => h2 ((nl_has law lw c h1).symm.trans z)) c_12) (fun _ => ?_)
  refine a_aload_0 rfl rfl ?_
  refine a_iconst (v := (nI 5)) rfl rfl rfl ?_
  refine a_virt0 rfl rfl (e_fail H 5) (Nat.le_of_ble_eq_true rfl) ⟨rfl, rfl, rfl, rfl⟩ rfl rfl rfl (Nat.le_of_ble_eq_true rfl) rfl rfl ?_
  refine a_aload_0 rfl rfl ?_
  refine a_iload_1 rfl rfl ?_
  refine a_virt0 rfl rfl (e_takeD D9 c (by omega)) (Nat.le_of_ble_eq_true rfl) ⟨rfl, rfl, rfl, rfl⟩ rfl rfl rfl (Nat.le_of_ble_eq_true rfl) rfl rfl ?_
  refine a_aload_0 rfl rfl ?_
  refine a_getr rfl rfl rfl (fun _ _ _ => rfl) rfl ?_
  refine a_iload_1 rfl rfl ?_
  refine a_iconst (v := (nI 0)) rfl rfl rfl ?_
  refine a_virt0 rfl rfl (e_addD hx D9 (by omega) (by omega)) (Nat.le_of_ble_eq_true rfl) ⟨rfl, rfl, rfl, rfl⟩ rfl rfl rfl (Nat.le_of_ble_eq_true rfl) (congrArg Prod.fst (tx_t hx)) rfl ?_
  exact a_vret rfl rfl
theorem pe_One (hx : x < t) (m : Nat) (I0 : PE L t lt sw gl b k n x law 0 66 5 1 false m) (I1 : PE L t lt sw gl b k n x law 5 73 10 6 true m) (I2 : PE L t lt sw gl b k n x law 3 64 7 3 false m) : PE L t lt sw gl b k n x law 0 66 5 1 false (m + 1) := by
  intro f o i len h r hp ho H
  have l3 := (CA_at H.1).2.2
  have l5 := H.1.2.2.2; have l6 := H.1.1.2.2.2.1; have l7 := H.2.2.2.2.2.1; have lw := H.2.2.1; have lw2 := H.2.1
  rw [pd] at hp
  by_cases q1 : cdT b k i = 45
  · rw [if_pos q1] at hp
    have A1 := AL_adv H (CA_lt H.1 (by omega))
    by_cases q2 : 9999 < nmT b k i
    · rw [if_pos q2] at hp
      obtain rfl := Option.some.inj hp
      obtain ⟨D1, d2, d3, d4⟩ := AL_fail (c := 2) H (p := tP b k i) (by decide)
      refine ⟨_, RsC_dt d4 (DT_add D1 45 (nmT b k i)) d2 d3, ?_⟩
      show avA _ 66 0 [.ref 72, .int (nI (o)), mvU] [] _ _
      refine a_aload_0 rfl rfl ?_
      refine a_getr rfl rfl rfl (fun _ _ _ => rfl) rfl ?_
      refine a_virtI rfl rfl (e_token H.1) (by omega) ⟨rfl, rfl, rfl, rfl⟩ rfl rfl rfl (Nat.le_of_ble_eq_true rfl) rfl rfl ?_
      refine a_istore_2 rfl rfl rfl ?_
      refine a_aload_0 rfl rfl ?_
      refine a_geti rfl rfl rfl (fun _ _ _ => rfl) ?_
      refine a_as (y := nI (0)) H.2.2.2.1 ?_
      refine a_ifN_eq rfl rfl rfl (by omega) (fun _ => ?_) (fun c_12 => False.elim (by omega))
      refine a_iload_2 rfl rfl ?_
      refine a_as (y := nI (45)) (congrArg nI q1) ?_
      refine a_bipush (v := (nI 45)) rfl rfl rfl ?_
      refine a_cmpN_ne rfl rfl rfl (by omega) (by omega) (fun c_19 => False.elim (by omega)) (fun _ => ?_)
      refine a_aload_0 rfl rfl ?_
      refine a_getr rfl rfl rfl (fun _ _ _ => rfl) rfl ?_
      refine a_iload_2 rfl rfl ?_
      refine a_as (y := nI (45)) (congrArg nI q1) ?_
      refine a_aload_0 rfl rfl ?_
      refine a_iconst (v := (nI 0)) rfl rfl rfl ?_
      refine a_sipush (v := (nI 9999)) rfl rfl rfl ?_
      refine a_virtI rfl rfl (e_numF H q1 (by omega) (by omega) (by omega)) (by omega) ⟨rfl, rfl, rfl, rfl⟩ rfl rfl rfl (Nat.le_of_ble_eq_true rfl) rfl rfl ?_
      refine a_virt0 rfl rfl (e_addD hx D1 (by omega) (by omega)) (by omega) ⟨rfl, rfl, rfl, rfl⟩ rfl rfl rfl (Nat.le_of_ble_eq_true rfl) (congrArg Prod.fst (tx_t hx)) rfl ?_
      refine a_goto rfl rfl ?_
      exact a_vret rfl rfl
    · rw [if_neg q2] at hp
      obtain rfl := Option.some.inj hp
      obtain ⟨A2, F2, a10, a11⟩ := adS_AL A1 (by omega) (nI (nmT b k i * 64 + 45))
      refine ⟨_, ⟨FR_trans (adv_FR _) F2, len + 1, A2, by omega, by omega, by omega, ?_, fun p g => (a10 p (by omega)).trans (adv_c _ _), Sg1_mono (Sg1_num a11 (by omega)) (by omega), fun E hE => by show (-1000000 : Int) ≤ (nmT b k i : Int) ∧ (nmT b k i : Int) ≤ 1000000; omega, fun z => absurd z (by decide)⟩, ?_⟩
      · rw [adS_72 _ _ (by omega)]; exact adv_4 _
      · show avA _ 66 0 [.ref 72, .int (nI (o)), mvU] [] _ _
        refine a_aload_0 rfl rfl ?_
        refine a_getr rfl rfl rfl (fun _ _ _ => rfl) rfl ?_
        refine a_virtI rfl rfl (e_token H.1) (by omega) ⟨rfl, rfl, rfl, rfl⟩ rfl rfl rfl (Nat.le_of_ble_eq_true rfl) rfl rfl ?_
        refine a_istore_2 rfl rfl rfl ?_
        refine a_aload_0 rfl rfl ?_
        refine a_geti rfl rfl rfl (fun _ _ _ => rfl) ?_
        refine a_as (y := nI (0)) H.2.2.2.1 ?_
        refine a_ifN_eq rfl rfl rfl (by omega) (fun _ => ?_) (fun c_12 => False.elim (by omega))
        refine a_iload_2 rfl rfl ?_
        refine a_as (y := nI (45)) (congrArg nI q1) ?_
        refine a_bipush (v := (nI 45)) rfl rfl rfl ?_
        refine a_cmpN_ne rfl rfl rfl (by omega) (by omega) (fun c_19 => False.elim (by omega)) (fun _ => ?_)
        refine a_aload_0 rfl rfl ?_
        refine a_getr rfl rfl rfl (fun _ _ _ => rfl) rfl ?_
        refine a_iload_2 rfl rfl ?_
        refine a_as (y := nI (45)) (congrArg nI q1) ?_
        refine a_aload_0 rfl rfl ?_
        refine a_iconst (v := (nI 0)) rfl rfl rfl ?_
        refine a_sipush (v := (nI 9999)) rfl rfl rfl ?_
        refine a_virtI rfl rfl (e_numT H q1 (by omega) (by omega) (by omega)) (by omega) ⟨rfl, rfl, rfl, rfl⟩ rfl rfl rfl (Nat.le_of_ble_eq_true rfl) rfl rfl ?_
        refine a_virt0 rfl rfl (e_addA hx A1 (by omega) (by omega) (by omega)) (by omega) ⟨rfl, rfl, rfl, rfl⟩ rfl rfl rfl (Nat.le_of_ble_eq_true rfl) (congrArg Prod.fst (tx_t hx)) rfl ?_
        refine a_goto rfl rfl ?_
        exact a_vret rfl rfl
  · rw [if_neg q1] at hp
    by_cases q2 : cdT b k i < 11
    · rw [if_pos q2] at hp
      by_cases q3 : nmOk law (cdT b k i) = true
      · rw [if_pos q3] at hp
        obtain rfl := Option.some.inj hp
        have A1 := AL_adv H (CA_lt H.1 (by omega))
        obtain ⟨A2, F2, a10, a11⟩ := adS_AL A1 (by omega) (nI (0 * 64 + cdT b k i))
        refine ⟨_, ⟨FR_trans (adv_FR _) F2, len + 1, A2, by omega, by omega, by omega, ?_, fun p g => (a10 p (by omega)).trans (adv_c _ _), Sg1_mono (Sg1_name a11 q3) (by omega), fun E hE => hE.1 _, fun z => absurd z (by decide)⟩, ?_⟩
        · rw [adS_72 _ _ (by omega)]; exact adv_4 _
        · show avA _ 66 0 [.ref 72, .int (nI (o)), mvU] [] _ _
          refine a_aload_0 rfl rfl ?_
          refine a_getr rfl rfl rfl (fun _ _ _ => rfl) rfl ?_
          refine a_virtI rfl rfl (e_token H.1) (by omega) ⟨rfl, rfl, rfl, rfl⟩ rfl rfl rfl (Nat.le_of_ble_eq_true rfl) rfl rfl ?_
          refine a_istore_2 rfl rfl rfl ?_
          refine a_aload_0 rfl rfl ?_
          refine a_geti rfl rfl rfl (fun _ _ _ => rfl) ?_
          refine a_as (y := nI (0)) H.2.2.2.1 ?_
          refine a_ifN_eq rfl rfl rfl (by omega) (fun _ => ?_) (fun c_12 => False.elim (by omega))
          refine a_iload_2 rfl rfl ?_
          refine a_bipush (v := (nI 45)) rfl rfl rfl ?_
          refine a_cmpN_ne rfl rfl rfl (by omega) (by omega) (fun _ => ?_) (fun c_19 => False.elim (by omega))
          refine a_iload_2 rfl rfl ?_
          refine a_bipush (v := (nI 11)) rfl rfl rfl ?_
          refine a_cmpN_ge rfl rfl rfl (by omega) (by omega) (fun c_44 => False.elim (by omega)) (fun _ => ?_)
          refine a_aload_0 rfl rfl ?_
          refine a_iload_2 rfl rfl ?_
          refine a_virt0 rfl rfl (e_nameT hx H rfl q2 q3) (by omega) ⟨rfl, rfl, rfl, rfl⟩ rfl rfl rfl (Nat.le_of_ble_eq_true rfl) rfl rfl ?_
          refine a_goto rfl rfl ?_
          exact a_vret rfl rfl
      · rw [if_neg q3] at hp
        obtain rfl := Option.some.inj hp
        obtain ⟨D1, d2, d3, d4⟩ := AL_fail (c := 5) H (p := tP b k i) (by decide)
        refine ⟨_, RsC_dt d4 (DT_add D1 (cdT b k i) 0) d2 d3, ?_⟩
        show avA _ 66 0 [.ref 72, .int (nI (o)), mvU] [] _ _
        refine a_aload_0 rfl rfl ?_
        refine a_getr rfl rfl rfl (fun _ _ _ => rfl) rfl ?_
        refine a_virtI rfl rfl (e_token H.1) (by omega) ⟨rfl, rfl, rfl, rfl⟩ rfl rfl rfl (Nat.le_of_ble_eq_true rfl) rfl rfl ?_
        refine a_istore_2 rfl rfl rfl ?_
        refine a_aload_0 rfl rfl ?_
        refine a_geti rfl rfl rfl (fun _ _ _ => rfl) ?_
        refine a_as (y := nI (0)) H.2.2.2.1 ?_
        refine a_ifN_eq rfl rfl rfl (by omega) (fun _ => ?_) (fun c_12 => False.elim (by omega))
        refine a_iload_2 rfl rfl ?_
        refine a_bipush (v := (nI 45)) rfl rfl rfl ?_
        refine a_cmpN_ne rfl rfl rfl (by omega) (by omega) (fun _ => ?_) (fun c_19 => False.elim (by omega))
        refine a_iload_2 rfl rfl ?_
        refine a_bipush (v := (nI 11)) rfl rfl rfl ?_
        refine a_cmpN_ge rfl rfl rfl (by omega) (by omega) (fun c_44 => False.elim (by omega)) (fun _ => ?_)
        refine a_aload_0 rfl rfl ?_
        refine a_iload_2 rfl rfl ?_
        refine a_virt0 rfl rfl (e_nameF hx H q2 q3) (by omega) ⟨rfl, rfl, rfl, rfl⟩ rfl rfl rfl (Nat.le_of_ble_eq_true rfl) rfl rfl ?_
        refine a_goto rfl rfl ?_
        exact a_vret rfl rfl
    · rw [if_neg q2] at hp
      by_cases q3 : cdT b k i = 40 ∨ cdT b k i = 37 ∨ cdT b k i = 21 ∨ cdT b k i = 23 ∨ cdT b k i = 24
      · rw [if_pos q3] at hp
        obtain ⟨h', R, C⟩ := pe_Opening hx m I0 I1 I2 o i len h r _ rfl q3 hp ho H
        refine ⟨h', R, ?_⟩
        show avA _ 66 0 [.ref 72, .int (nI (o)), mvU] [] _ _
        refine a_aload_0 rfl rfl ?_
        refine a_getr rfl rfl rfl (fun _ _ _ => rfl) rfl ?_
        refine a_virtI rfl rfl (e_token H.1) (by omega) ⟨rfl, rfl, rfl, rfl⟩ rfl rfl rfl (Nat.le_of_ble_eq_true rfl) rfl rfl ?_
        refine a_istore_2 rfl rfl rfl ?_
        refine a_aload_0 rfl rfl ?_
        refine a_geti rfl rfl rfl (fun _ _ _ => rfl) ?_
        refine a_as (y := nI (0)) H.2.2.2.1 ?_
        refine a_ifN_eq rfl rfl rfl (by omega) (fun _ => ?_) (fun c_12 => False.elim (by omega))
        refine a_iload_2 rfl rfl ?_
        refine a_bipush (v := (nI 45)) rfl rfl rfl ?_
        refine a_cmpN_ne rfl rfl rfl (by omega) (by omega) (fun _ => ?_) (fun c_19 => False.elim (by omega))
        refine a_iload_2 rfl rfl ?_
        refine a_bipush (v := (nI 11)) rfl rfl rfl ?_
        refine a_cmpN_ge rfl rfl rfl (by omega) (by omega) (fun _ => ?_) (fun c_44 => False.elim (by omega))
        refine a_iload_2 rfl rfl ?_
        refine a_bipush (v := (nI 40)) rfl rfl rfl ?_
        refine a_cmpN_eq rfl rfl rfl (by omega) (by omega) (fun c_58 => ?_) (fun c_58 => ?_)
        · refine a_aload_0 rfl rfl ?_
          refine a_iload_2 rfl rfl ?_
          refine a_iload_1 rfl rfl ?_
          refine a_virt0 rfl rfl (C) (by omega) ⟨rfl, rfl, rfl, rfl⟩ rfl rfl rfl (Nat.le_of_ble_eq_true rfl) rfl rfl ?_
          refine a_goto rfl rfl ?_
          exact a_vret rfl rfl
        · refine a_iload_2 rfl rfl ?_
          refine a_bipush (v := (nI 37)) rfl rfl rfl ?_
          refine a_cmpN_eq rfl rfl rfl (by omega) (by omega) (fun c_64 => ?_) (fun c_64 => ?_)
          · refine a_aload_0 rfl rfl ?_
            refine a_iload_2 rfl rfl ?_
            refine a_iload_1 rfl rfl ?_
            refine a_virt0 rfl rfl (C) (by omega) ⟨rfl, rfl, rfl, rfl⟩ rfl rfl rfl (Nat.le_of_ble_eq_true rfl) rfl rfl ?_
            refine a_goto rfl rfl ?_
            exact a_vret rfl rfl
          · refine a_iload_2 rfl rfl ?_
            refine a_bipush (v := (nI 21)) rfl rfl rfl ?_
            refine a_cmpN_eq rfl rfl rfl (by omega) (by omega) (fun c_70 => ?_) (fun c_70 => ?_)
            · refine a_aload_0 rfl rfl ?_
              refine a_iload_2 rfl rfl ?_
              refine a_iload_1 rfl rfl ?_
              refine a_virt0 rfl rfl (C) (by omega) ⟨rfl, rfl, rfl, rfl⟩ rfl rfl rfl (Nat.le_of_ble_eq_true rfl) rfl rfl ?_
              refine a_goto rfl rfl ?_
              exact a_vret rfl rfl
            · refine a_iload_2 rfl rfl ?_
              refine a_bipush (v := (nI 23)) rfl rfl rfl ?_
              refine a_cmpN_eq rfl rfl rfl (by omega) (by omega) (fun c_76 => ?_) (fun c_76 => ?_)
              · refine a_aload_0 rfl rfl ?_
                refine a_iload_2 rfl rfl ?_
                refine a_iload_1 rfl rfl ?_
                refine a_virt0 rfl rfl (C) (by omega) ⟨rfl, rfl, rfl, rfl⟩ rfl rfl rfl (Nat.le_of_ble_eq_true rfl) rfl rfl ?_
                refine a_goto rfl rfl ?_
                exact a_vret rfl rfl
              · refine a_iload_2 rfl rfl ?_
                refine a_bipush (v := (nI 24)) rfl rfl rfl ?_
                refine a_cmpN_ne rfl rfl rfl (by omega) (by omega) (fun c_82 => False.elim (by omega)) (fun _ => ?_)
                refine a_aload_0 rfl rfl ?_
                refine a_iload_2 rfl rfl ?_
                refine a_iload_1 rfl rfl ?_
                refine a_virt0 rfl rfl (C) (by omega) ⟨rfl, rfl, rfl, rfl⟩ rfl rfl rfl (Nat.le_of_ble_eq_true rfl) rfl rfl ?_
                refine a_goto rfl rfl ?_
                exact a_vret rfl rfl
      · rw [if_neg q3] at hp
        obtain rfl := Option.some.inj hp
        obtain ⟨D1, d2, d3, d4⟩ := AL_fail (c := 1) H (p := tP b k i) (by decide)
        refine ⟨_, ⟨d4, D1, d2, d3⟩, ?_⟩
        show avA _ 66 0 [.ref 72, .int (nI (o)), mvU] [] _ _
        refine a_aload_0 rfl rfl ?_
        refine a_getr rfl rfl rfl (fun _ _ _ => rfl) rfl ?_
        refine a_virtI rfl rfl (e_token H.1) (by omega) ⟨rfl, rfl, rfl, rfl⟩ rfl rfl rfl (Nat.le_of_ble_eq_true rfl) rfl rfl ?_
        refine a_istore_2 rfl rfl rfl ?_
        refine a_aload_0 rfl rfl ?_
        refine a_geti rfl rfl rfl (fun _ _ _ => rfl) ?_
        refine a_as (y := nI (0)) H.2.2.2.1 ?_
        refine a_ifN_eq rfl rfl rfl (by omega) (fun _ => ?_) (fun c_12 => False.elim (by omega))
        refine a_iload_2 rfl rfl ?_
        refine a_bipush (v := (nI 45)) rfl rfl rfl ?_
        refine a_cmpN_ne rfl rfl rfl (by omega) (by omega) (fun _ => ?_) (fun c_19 => False.elim (by omega))
        refine a_iload_2 rfl rfl ?_
        refine a_bipush (v := (nI 11)) rfl rfl rfl ?_
        refine a_cmpN_ge rfl rfl rfl (by omega) (by omega) (fun _ => ?_) (fun c_44 => False.elim (by omega))
        refine a_iload_2 rfl rfl ?_
        refine a_bipush (v := (nI 40)) rfl rfl rfl ?_
        refine a_cmpN_eq rfl rfl rfl (by omega) (by omega) (fun c_58 => False.elim (by omega)) (fun _ => ?_)
        refine a_iload_2 rfl rfl ?_
        refine a_bipush (v := (nI 37)) rfl rfl rfl ?_
        refine a_cmpN_eq rfl rfl rfl (by omega) (by omega) (fun c_64 => False.elim (by omega)) (fun _ => ?_)
        refine a_iload_2 rfl rfl ?_
        refine a_bipush (v := (nI 21)) rfl rfl rfl ?_
        refine a_cmpN_eq rfl rfl rfl (by omega) (by omega) (fun c_70 => False.elim (by omega)) (fun _ => ?_)
        refine a_iload_2 rfl rfl ?_
        refine a_bipush (v := (nI 23)) rfl rfl rfl ?_
        refine a_cmpN_eq rfl rfl rfl (by omega) (by omega) (fun c_76 => False.elim (by omega)) (fun _ => ?_)
        refine a_iload_2 rfl rfl ?_
        refine a_bipush (v := (nI 24)) rfl rfl rfl ?_
        refine a_cmpN_ne rfl rfl rfl (by omega) (by omega) (fun _ => ?_) (fun c_82 => False.elim (by omega))
        refine a_aload_0 rfl rfl ?_
        refine a_iconst (v := (nI 1)) rfl rfl rfl ?_
        refine a_virt0 rfl rfl (e_fail H 1) (by omega) ⟨rfl, rfl, rfl, rfl⟩ rfl rfl rfl (Nat.le_of_ble_eq_true rfl) rfl rfl ?_
        exact a_vret rfl rfl
/-- all of it -/
theorem p_all (hx : x < t) (m : Nat) : PE L t lt sw gl b k n x law 0 66 5 1 false m ∧ (PE L t lt sw gl b k n x law 1 65 6 2 false m ∧ PL L t lt sw gl b k n x law 2 65 6 2 1 false m) ∧ (PE L t lt sw gl b k n x law 3 64 7 3 false m ∧ PL L t lt sw gl b k n x law 4 64 7 3 1 false m) ∧ (PE L t lt sw gl b k n x law 5 73 10 6 true m ∧ PL L t lt sw gl b k n x law 6 73 10 6 0 true m) ∧ (PE L t lt sw gl b k n x law 7 74 9 5 true m ∧ PL L t lt sw gl b k n x law 8 74 9 5 0 true m) ∧ PE L t lt sw gl b k n x law 9 75 8 4 true m := by
  induction m with
  | zero =>
    have e : ∀ g K d w c, PE L t lt sw gl b k n x law g K d w c 0 := fun g K d w c f o i len h r hp => by rw [pd] at hp; exact absurd hp (by simp)
    have e' : ∀ g K d w l c, PL L t lt sw gl b k n x law g K d w l c 0 := fun g K d w l c f o i len h r s0 c' ys hp => by rw [pd] at hp; exact absurd hp (by simp)
    exact ⟨e _ _ _ _ _, ⟨e _ _ _ _ _, e' _ _ _ _ _ _⟩, ⟨e _ _ _ _ _, e' _ _ _ _ _ _⟩, ⟨e _ _ _ _ _, e' _ _ _ _ _ _⟩, ⟨e _ _ _ _ _, e' _ _ _ _ _ _⟩, e _ _ _ _ _⟩
  | succ m ih =>
    obtain ⟨i0, ⟨i1, i2⟩, ⟨i3, i4⟩, ⟨i5, i6⟩, ⟨i7, i8⟩, i9⟩ := ih
    exact ⟨pe_One hx m i0 i5 i3, ⟨pe_Product m i0 i2, pl_Product hx m i0 i2⟩, ⟨pe_Sum m i1 i4, pl_Sum hx m i1 i4⟩, ⟨pe_Either m i7 i6, pl_Either hx m i7 i6⟩, ⟨pe_Both m i9 i8, pl_Both hx m i9 i8⟩, pe_Ask hx m i3 i9⟩
end RP
