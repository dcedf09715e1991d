/-! THE CLASS READS: either, both, asks; the methods with loops -/
section RE
variable {L t : Nat} {lt : Option Nat} {sw : Bool} {gl : Nat → Nat → Int64} {b : Nat → Nat} {k n x law : Nat}
theorem pl_Both (hx : x < t) (m : Nat) (I1 : PE L t lt sw gl b k n x law 9 75 8 4 true m) (I2 : PL L t lt sw gl b k n x law 8 74 9 5 0 true m) : PL L t lt sw gl b k n x law 8 74 9 5 0 true (m + 1) := by
  intro f o i len h r s0 c ys hp ho H hc hs F bf cf hy
  obtain rfl := List.length_eq_zero_iff.mp hy
  have l3 := (CA_at H.1).2.2.2
  have l4 := H.1.2.2.1; have l5 := H.1.2.2.2; have l6 := H.1.1.2.2.2.1; have l7 := H.2.2.2.2.2.1
  rw [pd] at hp
  by_cases q : cdT b k i = 29
  · rw [if_pos q] at hp
    have hin := CA_lt H.1 (by omega)
    have H1 := AL_adv H hin
    have c1 : ∀ q, (mvPut h 68 4 (nI (i + 1))) (98 + 7 * x + 4) q = h (98 + 7 * x + 4) q := fun q => put_o (by omega)
    have F1 : FR x h (mvPut h 68 4 (nI (i + 1))) := FR_put FR_refl (by omega)
    rcases rB_cases hp with ⟨g, j, e1, e2⟩ | ⟨c', j, e1, rfl⟩
    · obtain ⟨h2, ⟨F2, len2, A2, a3, a4, a5, a6, a7, a8, a9, cg⟩, C⟩ := I1 _ o (i + 1) len _ _ e1 ho H1
      obtain ⟨A3, F3, a10, a11⟩ := adS_AL A2 (by omega) (nI (0 * 64 + 29))
      have ok : ∀ E, eOK E → jnOk 29 (f E) (g E) := fun E hE => Or.inr ⟨by omega, cf rfl E hE, cg rfl E hE⟩
      have S : Sg1 law (bn 29 f g) ((adS x len2 (nI (0 * 64 + 29)) h2) (98 + 7 * x + 4)) s0 (len2 + 1) (5 * (8 - o) + 5) := Sg1_bin (Sg1_cg F (fun q _ hq => (a10 q (by omega)).trans ((a7 q hq).trans (c1 q)))) (Sg1_cg a8 (fun q _ hq => a10 q (by omega))) bf a9 ok (by omega) a11 (by omega) (Nat.le_refl _) (by omega) (by omega)
      obtain ⟨h4, R4, C4⟩ := I2 _ o j (len2 + 1) _ r s0 (c + 1) [] e2 ho A3 (by omega) (by omega) S (bn_B bf a9 ok) (fun _ => bn_C (by omega)) rfl
      refine ⟨h4, RsC_pre R4 (FR_trans F1 (FR_trans F2 F3)) (by omega) (by omega) (by omega) ?_ (fun q hq => (a10 q (by omega)).trans ((a7 q (by omega)).trans (c1 q))), ?_⟩
      · rw [adS_72 _ _ (by omega), a6]; exact put_o (by omega)
      · refine a_iload_2 rfl rfl ?_
        refine a_sipush (v := (nI 300)) rfl rfl rfl ?_
        refine a_cmpN_ge rfl rfl rfl (by omega) (by omega) (fun c_11 => False.elim (by omega)) (fun _ => ?_)
        refine a_aload_0 rfl rfl ?_
        refine a_geti rfl rfl rfl (fun _ _ _ => rfl) ?_
        refine a_as (y := nI (0)) H.2.2.2.1 ?_
        refine a_ifN_ne rfl rfl rfl (by omega) (fun c_18 => False.elim (by omega)) (fun _ => ?_)
        refine a_aload_0 rfl rfl ?_
        refine a_getr rfl rfl rfl (fun _ _ _ => rfl) rfl ?_
        refine a_virtI rfl rfl (e_token H.1) (by omega) ⟨rfl, rfl, rfl, rfl⟩ rfl rfl rfl (Nat.le_of_ble_eq_true rfl) rfl rfl ?_
        refine a_bipush (v := (nI 29)) rfl rfl rfl ?_
        refine a_cmpN_ne rfl rfl rfl (by omega) (by omega) (fun c_30 => False.elim (by omega)) (fun _ => ?_)
        refine a_aload_0 rfl rfl ?_
        refine a_bipush (v := (nI 29)) rfl rfl rfl ?_
        refine a_virt0 rfl rfl (e_takeT H q (by omega)) (by omega) ⟨rfl, rfl, rfl, rfl⟩ rfl rfl rfl (Nat.le_of_ble_eq_true rfl) rfl rfl ?_
        refine a_aload_0 rfl rfl ?_
        refine a_iload_1 rfl rfl ?_
        refine a_virt0 rfl rfl (C) (by omega) ⟨rfl, rfl, rfl, rfl⟩ rfl rfl rfl (Nat.le_of_ble_eq_true rfl) rfl rfl ?_
        refine a_aload_0 rfl rfl ?_
        refine a_getr rfl rfl rfl (fun _ _ _ => rfl) rfl ?_
        refine a_bipush (v := (nI 29)) rfl rfl rfl ?_
        refine a_iconst (v := (nI 0)) rfl rfl rfl ?_
        refine a_virt0 rfl rfl (e_addA hx A2 (by omega) (by omega) (by omega)) (by omega) ⟨rfl, rfl, rfl, rfl⟩ rfl rfl rfl (Nat.le_of_ble_eq_true rfl) (congrArg Prod.fst (tx_t hx)) rfl ?_
        refine a_iinc_2 rfl rfl (nI_inc _ _) rfl ?_
        refine a_goto rfl rfl ?_
        exact C4
    · obtain ⟨h2, ⟨F2, D2, a3, a4⟩, C⟩ := I1 _ o (i + 1) len _ _ e1 ho H1
      have D3 := dAdd_DD D2 29 0
      refine ⟨dAdd x 29 0 h2, RsC_bad (FR_trans F1 F2) (dAdd_FR _ _) D3 (dAdd_72 _ _ _ (by omega)) a3 a4, ?_⟩
      refine a_iload_2 rfl rfl ?_
      refine a_sipush (v := (nI 300)) rfl rfl rfl ?_
      refine a_cmpN_ge rfl rfl rfl (by omega) (by omega) (fun c_11 => False.elim (by omega)) (fun _ => ?_)
      refine a_aload_0 rfl rfl ?_
      refine a_geti rfl rfl rfl (fun _ _ _ => rfl) ?_
      refine a_as (y := nI (0)) H.2.2.2.1 ?_
      refine a_ifN_ne rfl rfl rfl (by omega) (fun c_18 => False.elim (by omega)) (fun _ => ?_)
      refine a_aload_0 rfl rfl ?_
      refine a_getr rfl rfl rfl (fun _ _ _ => rfl) rfl ?_
      refine a_virtI rfl rfl (e_token H.1) (by omega) ⟨rfl, rfl, rfl, rfl⟩ rfl rfl rfl (Nat.le_of_ble_eq_true rfl) rfl rfl ?_
      refine a_bipush (v := (nI 29)) rfl rfl rfl ?_
      refine a_cmpN_ne rfl rfl rfl (by omega) (by omega) (fun c_30 => False.elim (by omega)) (fun _ => ?_)
      refine a_aload_0 rfl rfl ?_
      refine a_bipush (v := (nI 29)) rfl rfl rfl ?_
      refine a_virt0 rfl rfl (e_takeT H q (by omega)) (by omega) ⟨rfl, rfl, rfl, rfl⟩ rfl rfl rfl (Nat.le_of_ble_eq_true rfl) rfl rfl ?_
      refine a_aload_0 rfl rfl ?_
      refine a_iload_1 rfl rfl ?_
      refine a_virt0 rfl rfl (C) (by omega) ⟨rfl, rfl, rfl, rfl⟩ rfl rfl rfl (Nat.le_of_ble_eq_true rfl) rfl rfl ?_
      refine a_aload_0 rfl rfl ?_
      refine a_getr rfl rfl rfl (fun _ _ _ => rfl) rfl ?_
      refine a_bipush (v := (nI 29)) rfl rfl rfl ?_
      refine a_iconst (v := (nI 0)) rfl rfl rfl ?_
      refine a_virt0 rfl rfl (e_addD hx D2 (by omega) (by omega)) (by omega) ⟨rfl, rfl, rfl, rfl⟩ rfl rfl rfl (Nat.le_of_ble_eq_true rfl) (congrArg Prod.fst (tx_t hx)) rfl ?_
      refine a_iinc_2 rfl rfl (nI_inc _ _) rfl ?_
      refine a_goto rfl rfl ?_
      exact l_BothD D3 o (c + 1) _ (by omega)
  · rw [if_neg q] at hp
    obtain rfl := Option.some.inj hp
    refine ⟨h, ⟨FR_refl, len, H, Nat.le_refl _, by omega, Nat.le_refl _, rfl, fun _ _ => rfl, F, bf, cf⟩, ?_⟩
    refine a_iload_2 rfl rfl ?_
    refine a_sipush (v := (nI 300)) rfl rfl rfl ?_
    refine a_cmpN_ge rfl rfl rfl (by omega) (by omega) (fun c_11 => ?_) (fun c_11 => ?_)
    · exact a_vret rfl rfl
    · refine a_aload_0 rfl rfl ?_
      refine a_geti rfl rfl rfl (fun _ _ _ => rfl) ?_
      refine a_as (y := nI (0)) H.2.2.2.1 ?_
      refine a_ifN_ne rfl rfl rfl (by omega) (fun c_18 => False.elim (by omega)) (fun _ => ?_)
      refine a_aload_0 rfl rfl ?_
      refine a_getr rfl rfl rfl (fun _ _ _ => rfl) rfl ?_
      refine a_virtI rfl rfl (e_token H.1) (by omega) ⟨rfl, rfl, rfl, rfl⟩ rfl rfl rfl (Nat.le_of_ble_eq_true rfl) rfl rfl ?_
      refine a_bipush (v := (nI 29)) rfl rfl rfl ?_
      refine a_cmpN_ne rfl rfl rfl (by omega) (by omega) (fun _ => ?_) (fun c_30 => False.elim (by omega))
      exact a_vret rfl rfl
theorem pl_Either (hx : x < t) (m : Nat) (I1 : PE L t lt sw gl b k n x law 7 74 9 5 true m) (I2 : PL L t lt sw gl b k n x law 6 73 10 6 0 true m) : PL L t lt sw gl b k n x law 6 73 10 6 0 true (m + 1) := by
  intro f o i len h r s0 c ys hp ho H hc hs F bf cf hy
  obtain rfl := List.length_eq_zero_iff.mp hy
  have l3 := (CA_at H.1).2.2.2
  have l4 := H.1.2.2.1; have l5 := H.1.2.2.2; have l6 := H.1.1.2.2.2.1; have l7 := H.2.2.2.2.2.1
  rw [pd] at hp
  by_cases q : cdT b k i = 28
  · rw [if_pos q] at hp
    have hin := CA_lt H.1 (by omega)
    have H1 := AL_adv H hin
    have c1 : ∀ q, (mvPut h 68 4 (nI (i + 1))) (98 + 7 * x + 4) q = h (98 + 7 * x + 4) q := fun q => put_o (by omega)
    have F1 : FR x h (mvPut h 68 4 (nI (i + 1))) := FR_put FR_refl (by omega)
    rcases rB_cases hp with ⟨g, j, e1, e2⟩ | ⟨c', j, e1, rfl⟩
    · obtain ⟨h2, ⟨F2, len2, A2, a3, a4, a5, a6, a7, a8, a9, cg⟩, C⟩ := I1 _ o (i + 1) len _ _ e1 ho H1
      obtain ⟨A3, F3, a10, a11⟩ := adS_AL A2 (by omega) (nI (0 * 64 + 28))
      have ok : ∀ E, eOK E → jnOk 28 (f E) (g E) := fun E hE => Or.inr ⟨by omega, cf rfl E hE, cg rfl E hE⟩
      have S : Sg1 law (bn 28 f g) ((adS x len2 (nI (0 * 64 + 28)) h2) (98 + 7 * x + 4)) s0 (len2 + 1) (5 * (8 - o) + 6) := Sg1_bin (Sg1_cg F (fun q _ hq => (a10 q (by omega)).trans ((a7 q hq).trans (c1 q)))) (Sg1_cg a8 (fun q _ hq => a10 q (by omega))) bf a9 ok (by omega) a11 (by omega) (Nat.le_refl _) (by omega) (by omega)
      obtain ⟨h4, R4, C4⟩ := I2 _ o j (len2 + 1) _ r s0 (c + 1) [] e2 ho A3 (by omega) (by omega) S (bn_B bf a9 ok) (fun _ => bn_C (by omega)) rfl
      refine ⟨h4, RsC_pre R4 (FR_trans F1 (FR_trans F2 F3)) (by omega) (by omega) (by omega) ?_ (fun q hq => (a10 q (by omega)).trans ((a7 q (by omega)).trans (c1 q))), ?_⟩
      · rw [adS_72 _ _ (by omega), a6]; exact put_o (by omega)
      · refine a_iload_2 rfl rfl ?_
        refine a_sipush (v := (nI 300)) rfl rfl rfl ?_
        refine a_cmpN_ge rfl rfl rfl (by omega) (by omega) (fun c_11 => False.elim (by omega)) (fun _ => ?_)
        refine a_aload_0 rfl rfl ?_
        refine a_geti rfl rfl rfl (fun _ _ _ => rfl) ?_
        refine a_as (y := nI (0)) H.2.2.2.1 ?_
        refine a_ifN_ne rfl rfl rfl (by omega) (fun c_18 => False.elim (by omega)) (fun _ => ?_)
        refine a_aload_0 rfl rfl ?_
        refine a_getr rfl rfl rfl (fun _ _ _ => rfl) rfl ?_
        refine a_virtI rfl rfl (e_token H.1) (by omega) ⟨rfl, rfl, rfl, rfl⟩ rfl rfl rfl (Nat.le_of_ble_eq_true rfl) rfl rfl ?_
        refine a_bipush (v := (nI 28)) rfl rfl rfl ?_
        refine a_cmpN_ne rfl rfl rfl (by omega) (by omega) (fun c_30 => False.elim (by omega)) (fun _ => ?_)
        refine a_aload_0 rfl rfl ?_
        refine a_bipush (v := (nI 28)) rfl rfl rfl ?_
        refine a_virt0 rfl rfl (e_takeT H q (by omega)) (by omega) ⟨rfl, rfl, rfl, rfl⟩ rfl rfl rfl (Nat.le_of_ble_eq_true rfl) rfl rfl ?_
        refine a_aload_0 rfl rfl ?_
        refine a_iload_1 rfl rfl ?_
        refine a_virt0 rfl rfl (C) (by omega) ⟨rfl, rfl, rfl, rfl⟩ rfl rfl rfl (Nat.le_of_ble_eq_true rfl) rfl rfl ?_
        refine a_aload_0 rfl rfl ?_
        refine a_getr rfl rfl rfl (fun _ _ _ => rfl) rfl ?_
        refine a_bipush (v := (nI 28)) rfl rfl rfl ?_
        refine a_iconst (v := (nI 0)) rfl rfl rfl ?_
        refine a_virt0 rfl rfl (e_addA hx A2 (by omega) (by omega) (by omega)) (by omega) ⟨rfl, rfl, rfl, rfl⟩ rfl rfl rfl (Nat.le_of_ble_eq_true rfl) (congrArg Prod.fst (tx_t hx)) rfl ?_
        refine a_iinc_2 rfl rfl (nI_inc _ _) rfl ?_
        refine a_goto rfl rfl ?_
        exact C4
    · obtain ⟨h2, ⟨F2, D2, a3, a4⟩, C⟩ := I1 _ o (i + 1) len _ _ e1 ho H1
      have D3 := dAdd_DD D2 28 0
      refine ⟨dAdd x 28 0 h2, RsC_bad (FR_trans F1 F2) (dAdd_FR _ _) D3 (dAdd_72 _ _ _ (by omega)) a3 a4, ?_⟩
      refine a_iload_2 rfl rfl ?_
      refine a_sipush (v := (nI 300)) rfl rfl rfl ?_
      refine a_cmpN_ge rfl rfl rfl (by omega) (by omega) (fun c_11 => False.elim (by omega)) (fun _ => ?_)
      refine a_aload_0 rfl rfl ?_
      refine a_geti rfl rfl rfl (fun _ _ _ => rfl) ?_
      refine a_as (y := nI (0)) H.2.2.2.1 ?_
      refine a_ifN_ne rfl rfl rfl (by omega) (fun c_18 => False.elim (by omega)) (fun _ => ?_)
      refine a_aload_0 rfl rfl ?_
      refine a_getr rfl rfl rfl (fun _ _ _ => rfl) rfl ?_
      refine a_virtI rfl rfl (e_token H.1) (by omega) ⟨rfl, rfl, rfl, rfl⟩ rfl rfl rfl (Nat.le_of_ble_eq_true rfl) rfl rfl ?_
      refine a_bipush (v := (nI 28)) rfl rfl rfl ?_
      refine a_cmpN_ne rfl rfl rfl (by omega) (by omega) (fun c_30 => False.elim (by omega)) (fun _ => ?_)
      refine a_aload_0 rfl rfl ?_
      refine a_bipush (v := (nI 28)) rfl rfl rfl ?_
      refine a_virt0 rfl rfl (e_takeT H q (by omega)) (by omega) ⟨rfl, rfl, rfl, rfl⟩ rfl rfl rfl (Nat.le_of_ble_eq_true rfl) rfl rfl ?_
      refine a_aload_0 rfl rfl ?_
      refine a_iload_1 rfl rfl ?_
      refine a_virt0 rfl rfl (C) (by omega) ⟨rfl, rfl, rfl, rfl⟩ rfl rfl rfl (Nat.le_of_ble_eq_true rfl) rfl rfl ?_
      refine a_aload_0 rfl rfl ?_
      refine a_getr rfl rfl rfl (fun _ _ _ => rfl) rfl ?_
      refine a_bipush (v := (nI 28)) rfl rfl rfl ?_
      refine a_iconst (v := (nI 0)) rfl rfl rfl ?_
      refine a_virt0 rfl rfl (e_addD hx D2 (by omega) (by omega)) (by omega) ⟨rfl, rfl, rfl, rfl⟩ rfl rfl rfl (Nat.le_of_ble_eq_true rfl) (congrArg Prod.fst (tx_t hx)) rfl ?_
      refine a_iinc_2 rfl rfl (nI_inc _ _) rfl ?_
      refine a_goto rfl rfl ?_
      exact l_EitherD D3 o (c + 1) _ (by omega)
  · rw [if_neg q] at hp
    obtain rfl := Option.some.inj hp
    refine ⟨h, ⟨FR_refl, len, H, Nat.le_refl _, by omega, Nat.le_refl _, rfl, fun _ _ => rfl, F, bf, cf⟩, ?_⟩
    refine a_iload_2 rfl rfl ?_
    refine a_sipush (v := (nI 300)) rfl rfl rfl ?_
    refine a_cmpN_ge rfl rfl rfl (by omega) (by omega) (fun c_11 => ?_) (fun c_11 => ?_)
    · exact a_vret rfl rfl
    · refine a_aload_0 rfl rfl ?_
      refine a_geti rfl rfl rfl (fun _ _ _ => rfl) ?_
      refine a_as (y := nI (0)) H.2.2.2.1 ?_
      refine a_ifN_ne rfl rfl rfl (by omega) (fun c_18 => False.elim (by omega)) (fun _ => ?_)
      refine a_aload_0 rfl rfl ?_
      refine a_getr rfl rfl rfl (fun _ _ _ => rfl) rfl ?_
      refine a_virtI rfl rfl (e_token H.1) (by omega) ⟨rfl, rfl, rfl, rfl⟩ rfl rfl rfl (Nat.le_of_ble_eq_true rfl) rfl rfl ?_
      refine a_bipush (v := (nI 28)) rfl rfl rfl ?_
      refine a_cmpN_ne rfl rfl rfl (by omega) (by omega) (fun _ => ?_) (fun c_30 => False.elim (by omega))
      exact a_vret rfl rfl
theorem pe_Product (m : Nat) (I1 : PE L t lt sw gl b k n x law 0 66 5 1 false m) (I2 : PL L t lt sw gl b k n x law 2 65 6 2 1 false m) : PE L t lt sw gl b k n x law 1 65 6 2 false (m + 1) := by
  intro f o i len h r hp ho H
  rw [pd] at hp
  rcases rB_cases hp with ⟨g, j, e1, e2⟩ | ⟨c', j, e1, rfl⟩
  · obtain ⟨h2, ⟨F2, len2, A2, a3, a4, a5, a6, a7, a8, a9, cg⟩, C⟩ := I1 _ o i len _ _ e1 ho H
    obtain ⟨h4, R4, C4⟩ := I2 _ o j len2 _ r len 0 [mvU] e2 ho A2 (by omega) (by omega) (Sg1_mono a8 (by omega)) a9 cg rfl
    refine ⟨h4, RsC_pre R4 F2 (by omega) (by omega) (by omega) a6 a7, ?_⟩
    show avA _ 65 0 [.ref 72, .int (nI (o)), mvU, mvU] [] _ _
    refine a_aload_0 rfl rfl ?_
    refine a_iload_1 rfl rfl ?_
    refine a_virt0 rfl rfl (C) (by omega) ⟨rfl, rfl, rfl, rfl⟩ rfl rfl rfl (Nat.le_of_ble_eq_true rfl) rfl rfl ?_
    refine a_iconst (v := (nI 0)) rfl rfl rfl ?_
    refine a_istore_2 rfl rfl rfl ?_
    exact C4
  · obtain ⟨h2, ⟨F2, D2, a3, a4⟩, C⟩ := I1 _ o i len _ _ e1 ho H
    refine ⟨h2, ⟨F2, D2, a3, a4⟩, ?_⟩
    show avA _ 65 0 [.ref 72, .int (nI (o)), mvU, mvU] [] _ _
    refine a_aload_0 rfl rfl ?_
    refine a_iload_1 rfl rfl ?_
    refine a_virt0 rfl rfl (C) (by omega) ⟨rfl, rfl, rfl, rfl⟩ rfl rfl rfl (Nat.le_of_ble_eq_true rfl) rfl rfl ?_
    refine a_iconst (v := (nI 0)) rfl rfl rfl ?_
    refine a_istore_2 rfl rfl rfl ?_
    exact l_ProductD D2 o 0 _ _ (by omega)
theorem pe_Sum (m : Nat) (I1 : PE L t lt sw gl b k n x law 1 65 6 2 false m) (I2 : PL L t lt sw gl b k n x law 4 64 7 3 1 false m) : PE L t lt sw gl b k n x law 3 64 7 3 false (m + 1) := by
  intro f o i len h r hp ho H
  rw [pd] at hp
  rcases rB_cases hp with ⟨g, j, e1, e2⟩ | ⟨c', j, e1, rfl⟩
  · obtain ⟨h2, ⟨F2, len2, A2, a3, a4, a5, a6, a7, a8, a9, cg⟩, C⟩ := I1 _ o i len _ _ e1 ho H
    obtain ⟨h4, R4, C4⟩ := I2 _ o j len2 _ r len 0 [mvU] e2 ho A2 (by omega) (by omega) (Sg1_mono a8 (by omega)) a9 cg rfl
    refine ⟨h4, RsC_pre R4 F2 (by omega) (by omega) (by omega) a6 a7, ?_⟩
    show avA _ 64 0 [.ref 72, .int (nI (o)), mvU, mvU] [] _ _
    refine a_aload_0 rfl rfl ?_
    refine a_iload_1 rfl rfl ?_
    refine a_virt0 rfl rfl (C) (by omega) ⟨rfl, rfl, rfl, rfl⟩ rfl rfl rfl (Nat.le_of_ble_eq_true rfl) rfl rfl ?_
    refine a_iconst (v := (nI 0)) rfl rfl rfl ?_
    refine a_istore_2 rfl rfl rfl ?_
    exact C4
  · obtain ⟨h2, ⟨F2, D2, a3, a4⟩, C⟩ := I1 _ o i len _ _ e1 ho H
    refine ⟨h2, ⟨F2, D2, a3, a4⟩, ?_⟩
    show avA _ 64 0 [.ref 72, .int (nI (o)), mvU, mvU] [] _ _
    refine a_aload_0 rfl rfl ?_
    refine a_iload_1 rfl rfl ?_
    refine a_virt0 rfl rfl (C) (by omega) ⟨rfl, rfl, rfl, rfl⟩ rfl rfl rfl (Nat.le_of_ble_eq_true rfl) rfl rfl ?_
    refine a_iconst (v := (nI 0)) rfl rfl rfl ?_
    refine a_istore_2 rfl rfl rfl ?_
    exact l_SumD D2 o 0 _ _ (by omega)
theorem pe_Both (m : Nat) (I1 : PE L t lt sw gl b k n x law 9 75 8 4 true m) (I2 : PL L t lt sw gl b k n x law 8 74 9 5 0 true m) : PE L t lt sw gl b k n x law 7 74 9 5 true (m + 1) := by
  intro f o i len h r hp ho H
  rw [pd] at hp
  rcases rB_cases hp with ⟨g, j, e1, e2⟩ | ⟨c', j, e1, rfl⟩
  · obtain ⟨h2, ⟨F2, len2, A2, a3, a4, a5, a6, a7, a8, a9, cg⟩, C⟩ := I1 _ o i len _ _ e1 ho H
    obtain ⟨h4, R4, C4⟩ := I2 _ o j len2 _ r len 0 [] e2 ho A2 (by omega) (by omega) (Sg1_mono a8 (by omega)) a9 cg rfl
    refine ⟨h4, RsC_pre R4 F2 (by omega) (by omega) (by omega) a6 a7, ?_⟩
    show avA _ 74 0 [.ref 72, .int (nI (o)), mvU] [] _ _
    refine a_aload_0 rfl rfl ?_
    refine a_iload_1 rfl rfl ?_
    refine a_virt0 rfl rfl (C) (by omega) ⟨rfl, rfl, rfl, rfl⟩ rfl rfl rfl (Nat.le_of_ble_eq_true rfl) rfl rfl ?_
    refine a_iconst (v := (nI 0)) rfl rfl rfl ?_
    refine a_istore_2 rfl rfl rfl ?_
    exact C4
  · obtain ⟨h2, ⟨F2, D2, a3, a4⟩, C⟩ := I1 _ o i len _ _ e1 ho H
    refine ⟨h2, ⟨F2, D2, a3, a4⟩, ?_⟩
    show avA _ 74 0 [.ref 72, .int (nI (o)), mvU] [] _ _
    refine a_aload_0 rfl rfl ?_
    refine a_iload_1 rfl rfl ?_
    refine a_virt0 rfl rfl (C) (by omega) ⟨rfl, rfl, rfl, rfl⟩ rfl rfl rfl (Nat.le_of_ble_eq_true rfl) rfl rfl ?_
    refine a_iconst (v := (nI 0)) rfl rfl rfl ?_
    refine a_istore_2 rfl rfl rfl ?_
    exact l_BothD D2 o 0 _ (by omega)
theorem pe_Either (m : Nat) (I1 : PE L t lt sw gl b k n x law 7 74 9 5 true m) (I2 : PL L t lt sw gl b k n x law 6 73 10 6 0 true m) : PE L t lt sw gl b k n x law 5 73 10 6 true (m + 1) := by
  intro f o i len h r hp ho H
  rw [pd] at hp
  rcases rB_cases hp with ⟨g, j, e1, e2⟩ | ⟨c', j, e1, rfl⟩
  · obtain ⟨h2, ⟨F2, len2, A2, a3, a4, a5, a6, a7, a8, a9, cg⟩, C⟩ := I1 _ o i len _ _ e1 ho H
    obtain ⟨h4, R4, C4⟩ := I2 _ o j len2 _ r len 0 [] e2 ho A2 (by omega) (by omega) (Sg1_mono a8 (by omega)) a9 cg rfl
    refine ⟨h4, RsC_pre R4 F2 (by omega) (by omega) (by omega) a6 a7, ?_⟩
    show avA _ 73 0 [.ref 72, .int (nI (o)), mvU] [] _ _
    refine a_aload_0 rfl rfl ?_
    refine a_iload_1 rfl rfl ?_
    refine a_virt0 rfl rfl (C) (by omega) ⟨rfl, rfl, rfl, rfl⟩ rfl rfl rfl (Nat.le_of_ble_eq_true rfl) rfl rfl ?_
    refine a_iconst (v := (nI 0)) rfl rfl rfl ?_
    refine a_istore_2 rfl rfl rfl ?_
    exact C4
  · obtain ⟨h2, ⟨F2, D2, a3, a4⟩, C⟩ := I1 _ o i len _ _ e1 ho H
    refine ⟨h2, ⟨F2, D2, a3, a4⟩, ?_⟩
    show avA _ 73 0 [.ref 72, .int (nI (o)), mvU] [] _ _
    refine a_aload_0 rfl rfl ?_
    refine a_iload_1 rfl rfl ?_
    refine a_virt0 rfl rfl (C) (by omega) ⟨rfl, rfl, rfl, rfl⟩ rfl rfl rfl (Nat.le_of_ble_eq_true rfl) rfl rfl ?_
    refine a_iconst (v := (nI 0)) rfl rfl rfl ?_
    refine a_istore_2 rfl rfl rfl ?_
    exact l_EitherD D2 o 0 _ (by omega)
theorem pe_Ask (hx : x < t) (m : Nat) (I1 : PE L t lt sw gl b k n x law 3 64 7 3 false m) (I2 : PE L t lt sw gl b k n x law 9 75 8 4 true m) : PE L t lt sw gl b k n x law 9 75 8 4 true (m + 1) := by
  intro f o i len h r hp ho H
  have l3 := (CA_at H.1).2.2.2
  have l4 := H.1.2.2.1; have l5 := H.1.2.2.2; have l6 := H.1.1.2.2.2.1; have l7 := H.2.2.2.2.2.1
  rw [pd] at hp
  by_cases q : cdT b k i = 30
  · rw [if_pos q] at hp
    have hin := CA_lt H.1 (by omega)
    have H1 := AL_adv H hin
    have c1 : ∀ q, (mvPut h 68 4 (nI (i + 1))) (98 + 7 * x + 4) q = h (98 + 7 * x + 4) q := fun q => put_o (by omega)
    have F1 : FR x h (mvPut h 68 4 (nI (i + 1))) := FR_put FR_refl (by omega)
    by_cases q8 : 8 ≤ o
    · rw [if_pos q8] at hp
      obtain rfl := Option.some.inj hp
      obtain ⟨D1, d2, d3, d4⟩ := AL_fail (c := 3) H (p := tP b k i) (by decide)
      refine ⟨_, ⟨d4, D1, d2, d3⟩, ?_⟩
      show avA _ 75 0 [.ref 72, .int (nI (o)), mvU] [] _ _
      refine a_aload_0 rfl rfl ?_
      refine a_geti rfl rfl rfl (fun _ _ _ => rfl) ?_
      refine a_as (y := nI (0)) H.2.2.2.1 ?_
      refine a_ifN_eq rfl rfl rfl (by omega) (fun _ => ?_) (fun c_4 => False.elim (by omega))
      refine a_aload_0 rfl rfl ?_
      refine a_getr rfl rfl rfl (fun _ _ _ => rfl) rfl ?_
      refine a_virtI rfl rfl (e_token H.1) (by omega) ⟨rfl, rfl, rfl, rfl⟩ rfl rfl rfl (Nat.le_of_ble_eq_true rfl) rfl rfl ?_
      refine a_bipush (v := (nI 30)) rfl rfl rfl ?_
      refine a_cmpN_ne rfl rfl rfl (by omega) (by omega) (fun c_17 => False.elim (by omega)) (fun _ => ?_)
      refine a_iload_1 rfl rfl ?_
      refine a_bipush (v := (nI 8)) rfl rfl rfl ?_
      refine a_cmpN_lt rfl rfl rfl (by omega) (by omega) (fun c_23 => False.elim (by omega)) (fun _ => ?_)
      refine a_aload_0 rfl rfl ?_
      refine a_iconst (v := (nI 3)) rfl rfl rfl ?_
      refine a_virt0 rfl rfl (e_fail H 3) (by omega) ⟨rfl, rfl, rfl, rfl⟩ rfl rfl rfl (Nat.le_of_ble_eq_true rfl) rfl rfl ?_
      exact a_vret rfl rfl
    · rw [if_neg q8] at hp
      rcases rB_cases hp with ⟨g, j, e1, e2⟩ | ⟨c', j, e1, rfl⟩
      · obtain ⟨h2, ⟨F2, len2, A2, a3, a4, a5, a6, a7, a8, a9, cg⟩, C⟩ := I2 _ (o + 1) (i + 1) len _ _ e1 (by omega) H1
        obtain rfl := Option.some.inj e2
        obtain ⟨A3, F3, a10, a11⟩ := adS_AL A2 (by omega) (nI (0 * 64 + 30))
        have S : Sg1 law (fun E => 1 - g E) ((adS x len2 (nI (0 * 64 + 30)) h2) (98 + 7 * x + 4)) len (len2 + 1) (5 * (8 - o) + 4) := Sg1_mono (Sg1_not (Sg1_cg a8 (fun q _ hq => a10 q (by omega))) (cg rfl) a11 (by omega)) (by omega)
        have fc : fC (fun E => 1 - g E) := fun E hE => by
          show 1 - g E = 0 ∨ 1 - g E = 1
          rcases cg rfl E hE with q | q <;> rw [q] <;> decide
        refine ⟨_, ⟨FR_trans F1 (FR_trans F2 F3), len2 + 1, A3, by omega, by omega, by omega, ?_, fun q hq => (a10 q (by omega)).trans ((a7 q (by omega)).trans (c1 q)), S, fC_B fc, fun _ => fc⟩, ?_⟩
        · rw [adS_72 _ _ (by omega), a6]; exact put_o (by omega)
        · show avA _ 75 0 [.ref 72, .int (nI (o)), mvU] [] _ _
          refine a_aload_0 rfl rfl ?_
          refine a_geti rfl rfl rfl (fun _ _ _ => rfl) ?_
          refine a_as (y := nI (0)) H.2.2.2.1 ?_
          refine a_ifN_eq rfl rfl rfl (by omega) (fun _ => ?_) (fun c_4 => False.elim (by omega))
          refine a_aload_0 rfl rfl ?_
          refine a_getr rfl rfl rfl (fun _ _ _ => rfl) rfl ?_
          refine a_virtI rfl rfl (e_token H.1) (by omega) ⟨rfl, rfl, rfl, rfl⟩ rfl rfl rfl (Nat.le_of_ble_eq_true rfl) rfl rfl ?_
          refine a_bipush (v := (nI 30)) rfl rfl rfl ?_
          refine a_cmpN_ne rfl rfl rfl (by omega) (by omega) (fun c_17 => False.elim (by omega)) (fun _ => ?_)
          refine a_iload_1 rfl rfl ?_
          refine a_bipush (v := (nI 8)) rfl rfl rfl ?_
          refine a_cmpN_lt rfl rfl rfl (by omega) (by omega) (fun _ => ?_) (fun c_23 => False.elim (by omega))
          refine a_aload_0 rfl rfl ?_
          refine a_bipush (v := (nI 30)) rfl rfl rfl ?_
          refine a_virt0 rfl rfl (e_takeT H q (by omega)) (by omega) ⟨rfl, rfl, rfl, rfl⟩ rfl rfl rfl (Nat.le_of_ble_eq_true rfl) rfl rfl ?_
          refine a_aload_0 rfl rfl ?_
          refine a_iload_1 rfl rfl ?_
          refine a_iconst (v := (nI 1)) rfl rfl rfl ?_
          refine a_iaddN rfl rfl ?_
          refine a_virt0 rfl rfl (C) (by omega) ⟨rfl, rfl, rfl, rfl⟩ rfl rfl rfl (Nat.le_of_ble_eq_true rfl) rfl rfl ?_
          refine a_aload_0 rfl rfl ?_
          refine a_getr rfl rfl rfl (fun _ _ _ => rfl) rfl ?_
          refine a_bipush (v := (nI 30)) rfl rfl rfl ?_
          refine a_iconst (v := (nI 0)) rfl rfl rfl ?_
          refine a_virt0 rfl rfl (e_addA hx A2 (by omega) (by omega) (by omega)) (by omega) ⟨rfl, rfl, rfl, rfl⟩ rfl rfl rfl (Nat.le_of_ble_eq_true rfl) (congrArg Prod.fst (tx_t hx)) rfl ?_
          exact a_vret rfl rfl
      · obtain ⟨h2, ⟨F2, D2, a3, a4⟩, C⟩ := I2 _ (o + 1) (i + 1) len _ _ e1 (by omega) H1
        have D3 := dAdd_DD D2 30 0
        refine ⟨dAdd x 30 0 h2, RsC_bad (FR_trans F1 F2) (dAdd_FR _ _) D3 (dAdd_72 _ _ _ (by omega)) a3 a4, ?_⟩
        show avA _ 75 0 [.ref 72, .int (nI (o)), mvU] [] _ _
        refine a_aload_0 rfl rfl ?_
        refine a_geti rfl rfl rfl (fun _ _ _ => rfl) ?_
        refine a_as (y := nI (0)) H.2.2.2.1 ?_
        refine a_ifN_eq rfl rfl rfl (by omega) (fun _ => ?_) (fun c_4 => False.elim (by omega))
        refine a_aload_0 rfl rfl ?_
        refine a_getr rfl rfl rfl (fun _ _ _ => rfl) rfl ?_
        refine a_virtI rfl rfl (e_token H.1) (by omega) ⟨rfl, rfl, rfl, rfl⟩ rfl rfl rfl (Nat.le_of_ble_eq_true rfl) rfl rfl ?_
        refine a_bipush (v := (nI 30)) rfl rfl rfl ?_
        refine a_cmpN_ne rfl rfl rfl (by omega) (by omega) (fun c_17 => False.elim (by omega)) (fun _ => ?_)
        refine a_iload_1 rfl rfl ?_
        refine a_bipush (v := (nI 8)) rfl rfl rfl ?_
        refine a_cmpN_lt rfl rfl rfl (by omega) (by omega) (fun _ => ?_) (fun c_23 => False.elim (by omega))
        refine a_aload_0 rfl rfl ?_
        refine a_bipush (v := (nI 30)) rfl rfl rfl ?_
        refine a_virt0 rfl rfl (e_takeT H q (by omega)) (by omega) ⟨rfl, rfl, rfl, rfl⟩ rfl rfl rfl (Nat.le_of_ble_eq_true rfl) rfl rfl ?_
        refine a_aload_0 rfl rfl ?_
        refine a_iload_1 rfl rfl ?_
        refine a_iconst (v := (nI 1)) rfl rfl rfl ?_
        refine a_iaddN rfl rfl ?_
        refine a_virt0 rfl rfl (C) (by omega) ⟨rfl, rfl, rfl, rfl⟩ rfl rfl rfl (Nat.le_of_ble_eq_true rfl) rfl rfl ?_
        refine a_aload_0 rfl rfl ?_
        refine a_getr rfl rfl rfl (fun _ _ _ => rfl) rfl ?_
        refine a_bipush (v := (nI 30)) rfl rfl rfl ?_
        refine a_iconst (v := (nI 0)) rfl rfl rfl ?_
        refine a_virt0 rfl rfl (e_addD hx D2 (by omega) (by omega)) (by omega) ⟨rfl, rfl, rfl, rfl⟩ rfl rfl rfl (Nat.le_of_ble_eq_true rfl) (congrArg Prod.fst (tx_t hx)) rfl ?_
        exact a_vret rfl rfl
  · rw [if_neg q] at hp
    rcases rB_cases hp with ⟨f, j, e1, e2⟩ | ⟨c', j, e1, rfl⟩
    · obtain ⟨h2, ⟨F2, len2, A2, a3, a4, a5, a6, a7, a8, a9, _⟩, C⟩ := I1 _ o i len _ _ e1 ho H
      have l3' := (CA_at A2.1).2.2.2
      have l4' := A2.1.2.2.1; have l7' := A2.2.2.2.2.2.1
      by_cases qc : cmpT (cdT b k j) = true
      · rw [if_pos qc] at e2
        have qc' := of_decide_eq_true qc
        have hin := CA_lt A2.1 (by omega)
        have H3 := AL_adv A2 hin
        have c1 : ∀ q, (mvPut h2 68 4 (nI (j + 1))) (98 + 7 * x + 4) q = h2 (98 + 7 * x + 4) q := fun q => put_o (by omega)
        have F3 : FR x h2 (mvPut h2 68 4 (nI (j + 1))) := FR_put FR_refl (by omega)
        rcases rB_cases e2 with ⟨g, j2, e3, e4⟩ | ⟨c', j2, e3, rfl⟩
        · obtain ⟨h4, ⟨F4, len4, A4, b3, b4, b5, b6, b7, b8, b9, _⟩, C4⟩ := I1 _ o (j + 1) len2 _ _ e3 ho H3
          obtain rfl := Option.some.inj e4
          obtain ⟨A5, F5, a10, a11⟩ := adS_AL A4 (by omega) (nI (0 * 64 + cdT b k j))
          have ok : ∀ E, eOK E → jnOk (cdT b k j) (f E) (g E) := fun E _ => Or.inl (by omega)
          have S : Sg1 law (bn (cdT b k j) f g) ((adS x len4 (nI (0 * 64 + cdT b k j)) h4) (98 + 7 * x + 4)) len (len4 + 1) (5 * (8 - o) + 4) := Sg1_bin (Sg1_cg a8 (fun q _ hq => (a10 q (by omega)).trans ((b7 q hq).trans (c1 q)))) (Sg1_cg b8 (fun q _ hq => a10 q (by omega))) a9 b9 ok (by omega) a11 (by omega) (by omega) (by omega) (by omega)
          have fc : fC (bn (cdT b k j) f g) := bn_C (by omega)
          refine ⟨_, ⟨FR_trans F2 (FR_trans F3 (FR_trans F4 F5)), len4 + 1, A5, by omega, by omega, by omega, ?_, fun q hq => (a10 q (by omega)).trans ((b7 q (by omega)).trans ((c1 q).trans (a7 q hq))), S, fC_B fc, fun _ => fc⟩, ?_⟩
          · rw [adS_72 _ _ (by omega), b6]; exact (put_o (by omega)).trans a6
          · show avA _ 75 0 [.ref 72, .int (nI (o)), mvU] [] _ _
            refine a_aload_0 rfl rfl ?_
            refine a_geti rfl rfl rfl (fun _ _ _ => rfl) ?_
            refine a_as (y := nI (0)) H.2.2.2.1 ?_
            refine a_ifN_eq rfl rfl rfl (by omega) (fun _ => ?_) (fun c_4 => False.elim (by omega))
            refine a_aload_0 rfl rfl ?_
            refine a_getr rfl rfl rfl (fun _ _ _ => rfl) rfl ?_
            refine a_virtI rfl rfl (e_token H.1) (by omega) ⟨rfl, rfl, rfl, rfl⟩ rfl rfl rfl (Nat.le_of_ble_eq_true rfl) rfl rfl ?_
            refine a_bipush (v := (nI 30)) rfl rfl rfl ?_
            refine a_cmpN_ne rfl rfl rfl (by omega) (by omega) (fun _ => ?_) (fun c_17 => False.elim (by omega))
            refine a_aload_0 rfl rfl ?_
            refine a_iload_1 rfl rfl ?_
            refine a_virt0 rfl rfl (C) (by omega) ⟨rfl, rfl, rfl, rfl⟩ rfl rfl rfl (Nat.le_of_ble_eq_true rfl) rfl rfl ?_
            refine a_aload_0 rfl rfl ?_
            refine a_getr rfl rfl rfl (fun _ _ _ => rfl) rfl ?_
            refine a_virtI rfl rfl (e_token A2.1) (by omega) ⟨rfl, rfl, rfl, rfl⟩ rfl rfl rfl (Nat.le_of_ble_eq_true rfl) rfl rfl ?_
            refine a_istore_2 rfl rfl rfl ?_
            refine a_iload_2 rfl rfl ?_
            refine a_statI rfl rfl (e_compares _ (by omega)) (by omega) ⟨rfl, rfl, rfl⟩ rfl rfl rfl (Nat.le_of_ble_eq_true rfl) rfl ?_
            refine a_ifb_ne rfl rfl rfl (fun _ => ?_) (fun c_73 => by first | exact absurd (of_decide_eq_true qc) c_73 | exact absurd c_73 (of_decide_eq_true qc))
            refine a_aload_0 rfl rfl ?_
            refine a_iload_2 rfl rfl ?_
            refine a_virt0 rfl rfl (e_takeT A2 rfl (by omega)) (by omega) ⟨rfl, rfl, rfl, rfl⟩ rfl rfl rfl (Nat.le_of_ble_eq_true rfl) rfl rfl ?_
            refine a_aload_0 rfl rfl ?_
            refine a_iload_1 rfl rfl ?_
            refine a_virt0 rfl rfl (C4) (by omega) ⟨rfl, rfl, rfl, rfl⟩ rfl rfl rfl (Nat.le_of_ble_eq_true rfl) rfl rfl ?_
            refine a_aload_0 rfl rfl ?_
            refine a_getr rfl rfl rfl (fun _ _ _ => rfl) rfl ?_
            refine a_iload_2 rfl rfl ?_
            refine a_iconst (v := (nI 0)) rfl rfl rfl ?_
            refine a_virt0 rfl rfl (e_addA hx A4 (by omega) (by omega) (by omega)) (by omega) ⟨rfl, rfl, rfl, rfl⟩ rfl rfl rfl (Nat.le_of_ble_eq_true rfl) (congrArg Prod.fst (tx_t hx)) rfl ?_
            exact a_vret rfl rfl
        · obtain ⟨h4, ⟨F4, D4, b3, b4⟩, C4⟩ := I1 _ o (j + 1) len2 _ _ e3 ho H3
          have D5 := dAdd_DD D4 (cdT b k j) 0
          refine ⟨dAdd x (cdT b k j) 0 h4, RsC_bad (FR_trans F2 (FR_trans F3 F4)) (dAdd_FR _ _) D5 (dAdd_72 _ _ _ (by omega)) b3 b4, ?_⟩
          show avA _ 75 0 [.ref 72, .int (nI (o)), mvU] [] _ _
          refine a_aload_0 rfl rfl ?_
          refine a_geti rfl rfl rfl (fun _ _ _ => rfl) ?_
          refine a_as (y := nI (0)) H.2.2.2.1 ?_
          refine a_ifN_eq rfl rfl rfl (by omega) (fun _ => ?_) (fun c_4 => False.elim (by omega))
          refine a_aload_0 rfl rfl ?_
          refine a_getr rfl rfl rfl (fun _ _ _ => rfl) rfl ?_
          refine a_virtI rfl rfl (e_token H.1) (by omega) ⟨rfl, rfl, rfl, rfl⟩ rfl rfl rfl (Nat.le_of_ble_eq_true rfl) rfl rfl ?_
          refine a_bipush (v := (nI 30)) rfl rfl rfl ?_
          refine a_cmpN_ne rfl rfl rfl (by omega) (by omega) (fun _ => ?_) (fun c_17 => False.elim (by omega))
          refine a_aload_0 rfl rfl ?_
          refine a_iload_1 rfl rfl ?_
          refine a_virt0 rfl rfl (C) (by omega) ⟨rfl, rfl, rfl, rfl⟩ rfl rfl rfl (Nat.le_of_ble_eq_true rfl) rfl rfl ?_
          refine a_aload_0 rfl rfl ?_
          refine a_getr rfl rfl rfl (fun _ _ _ => rfl) rfl ?_
          refine a_virtI rfl rfl (e_token A2.1) (by omega) ⟨rfl, rfl, rfl, rfl⟩ rfl rfl rfl (Nat.le_of_ble_eq_true rfl) rfl rfl ?_
          refine a_istore_2 rfl rfl rfl ?_
          refine a_iload_2 rfl rfl ?_
          refine a_statI rfl rfl (e_compares _ (by omega)) (by omega) ⟨rfl, rfl, rfl⟩ rfl rfl rfl (Nat.le_of_ble_eq_true rfl) rfl ?_
          refine a_ifb_ne rfl rfl rfl (fun _ => ?_) (fun c_73 => by first | exact absurd (of_decide_eq_true qc) c_73 | exact absurd c_73 (of_decide_eq_true qc))
          refine a_aload_0 rfl rfl ?_
          refine a_iload_2 rfl rfl ?_
          refine a_virt0 rfl rfl (e_takeT A2 rfl (by omega)) (by omega) ⟨rfl, rfl, rfl, rfl⟩ rfl rfl rfl (Nat.le_of_ble_eq_true rfl) rfl rfl ?_
          refine a_aload_0 rfl rfl ?_
          refine a_iload_1 rfl rfl ?_
          refine a_virt0 rfl rfl (C4) (by omega) ⟨rfl, rfl, rfl, rfl⟩ rfl rfl rfl (Nat.le_of_ble_eq_true rfl) rfl rfl ?_
          refine a_aload_0 rfl rfl ?_
          refine a_getr rfl rfl rfl (fun _ _ _ => rfl) rfl ?_
          refine a_iload_2 rfl rfl ?_
          refine a_iconst (v := (nI 0)) rfl rfl rfl ?_
          refine a_virt0 rfl rfl (e_addD hx D4 (by omega) (by omega)) (by omega) ⟨rfl, rfl, rfl, rfl⟩ rfl rfl rfl (Nat.le_of_ble_eq_true rfl) (congrArg Prod.fst (tx_t hx)) rfl ?_
          exact a_vret rfl rfl
      · rw [if_neg qc] at e2
        obtain rfl := Option.some.inj e2
        obtain ⟨D1, d2, d3, d4⟩ := AL_fail (c := 1) A2 (p := tP b k j) (by decide)
        refine ⟨_, ⟨FR_trans F2 d4, D1, d2, d3⟩, ?_⟩
        show avA _ 75 0 [.ref 72, .int (nI (o)), mvU] [] _ _
        refine a_aload_0 rfl rfl ?_
        refine a_geti rfl rfl rfl (fun _ _ _ => rfl) ?_
        refine a_as (y := nI (0)) H.2.2.2.1 ?_
        refine a_ifN_eq rfl rfl rfl (by omega) (fun _ => ?_) (fun c_4 => False.elim (by omega))
        refine a_aload_0 rfl rfl ?_
        refine a_getr rfl rfl rfl (fun _ _ _ => rfl) rfl ?_
        refine a_virtI rfl rfl (e_token H.1) (by omega) ⟨rfl, rfl, rfl, rfl⟩ rfl rfl rfl (Nat.le_of_ble_eq_true rfl) rfl rfl ?_
        refine a_bipush (v := (nI 30)) rfl rfl rfl ?_
        refine a_cmpN_ne rfl rfl rfl (by omega) (by omega) (fun _ => ?_) (fun c_17 => False.elim (by omega))
        refine a_aload_0 rfl rfl ?_
        refine a_iload_1 rfl rfl ?_
        refine a_virt0 rfl rfl (C) (by omega) ⟨rfl, rfl, rfl, rfl⟩ rfl rfl rfl (Nat.le_of_ble_eq_true rfl) rfl rfl ?_
        refine a_aload_0 rfl rfl ?_
        refine a_getr rfl rfl rfl (fun _ _ _ => rfl) rfl ?_
        refine a_virtI rfl rfl (e_token A2.1) (by omega) ⟨rfl, rfl, rfl, rfl⟩ rfl rfl rfl (Nat.le_of_ble_eq_true rfl) rfl rfl ?_
        refine a_istore_2 rfl rfl rfl ?_
        refine a_iload_2 rfl rfl ?_
        refine a_statI rfl rfl (e_compares _ (by omega)) (by omega) ⟨rfl, rfl, rfl⟩ rfl rfl rfl (Nat.le_of_ble_eq_true rfl) rfl ?_
        refine a_ifb_ne rfl rfl rfl (fun c_73 => by first | exact absurd c_73 (fun z => qc (decide_eq_true z)) | exact absurd (fun z => qc (decide_eq_true z)) c_73) (fun _ => ?_)
        refine a_aload_0 rfl rfl ?_
        refine a_iconst (v := (nI 1)) rfl rfl rfl ?_
        refine a_virt0 rfl rfl (e_fail A2 1) (by omega) ⟨rfl, rfl, rfl, rfl⟩ rfl rfl rfl (Nat.le_of_ble_eq_true rfl) rfl rfl ?_
        exact a_vret rfl rfl
    · obtain ⟨h2, ⟨F2, D2, a3, a4⟩, C⟩ := I1 _ o i len _ _ e1 ho H
      obtain ⟨⟨i', hi'⟩, ⟨c2, e, g1, g2⟩, _⟩ := id D2
      have l3' := (CA_at hi').2.2.2
      by_cases qc : cmpT (cdT b k i') = true
      · have D5 := dAdd_DD D2 (cdT b k i') 0
        refine ⟨dAdd x (cdT b k i') 0 h2, RsC_bad F2 (dAdd_FR _ _) D5 (dAdd_72 _ _ _ (by omega)) a3 a4, ?_⟩
        show avA _ 75 0 [.ref 72, .int (nI (o)), mvU] [] _ _
        refine a_aload_0 rfl rfl ?_
        refine a_geti rfl rfl rfl (fun _ _ _ => rfl) ?_
        refine a_as (y := nI (0)) H.2.2.2.1 ?_
        refine a_ifN_eq rfl rfl rfl (by omega) (fun _ => ?_) (fun c_4 => False.elim (by omega))
        refine a_aload_0 rfl rfl ?_
        refine a_getr rfl rfl rfl (fun _ _ _ => rfl) rfl ?_
        refine a_virtI rfl rfl (e_token H.1) (by omega) ⟨rfl, rfl, rfl, rfl⟩ rfl rfl rfl (Nat.le_of_ble_eq_true rfl) rfl rfl ?_
        refine a_bipush (v := (nI 30)) rfl rfl rfl ?_
        refine a_cmpN_ne rfl rfl rfl (by omega) (by omega) (fun _ => ?_) (fun c_17 => False.elim (by omega))
        refine a_aload_0 rfl rfl ?_
        refine a_iload_1 rfl rfl ?_
        refine a_virt0 rfl rfl (C) (by omega) ⟨rfl, rfl, rfl, rfl⟩ rfl rfl rfl (Nat.le_of_ble_eq_true rfl) rfl rfl ?_
        refine a_aload_0 rfl rfl ?_
        refine a_getr rfl rfl rfl (fun _ _ _ => rfl) rfl ?_
        refine a_virtI rfl rfl (e_token hi') (by omega) ⟨rfl, rfl, rfl, rfl⟩ rfl rfl rfl (Nat.le_of_ble_eq_true rfl) rfl rfl ?_
        refine a_istore_2 rfl rfl rfl ?_
        refine a_iload_2 rfl rfl ?_
        refine a_statI rfl rfl (e_compares _ (by omega)) (by omega) ⟨rfl, rfl, rfl⟩ rfl rfl rfl (Nat.le_of_ble_eq_true rfl) rfl ?_
        refine a_ifb_ne rfl rfl rfl (fun _ => ?_) (fun c_73 => by first | exact absurd (of_decide_eq_true qc) c_73 | exact absurd c_73 (of_decide_eq_true qc))
        refine a_aload_0 rfl rfl ?_
        refine a_iload_2 rfl rfl ?_
        refine a_virt0 rfl rfl (e_takeD D2 _ (by omega)) (by omega) ⟨rfl, rfl, rfl, rfl⟩ rfl rfl rfl (Nat.le_of_ble_eq_true rfl) rfl rfl ?_
        refine a_aload_0 rfl rfl ?_
        refine a_iload_1 rfl rfl ?_
        refine a_virt0 rfl rfl (e_SumD D2 o) (by omega) ⟨rfl, rfl, rfl, rfl⟩ rfl rfl rfl (Nat.le_of_ble_eq_true rfl) rfl rfl ?_
        refine a_aload_0 rfl rfl ?_
        refine a_getr rfl rfl rfl (fun _ _ _ => rfl) rfl ?_
        refine a_iload_2 rfl rfl ?_
        refine a_iconst (v := (nI 0)) rfl rfl rfl ?_
        refine a_virt0 rfl rfl (e_addD hx D2 (by omega) (by omega)) (by omega) ⟨rfl, rfl, rfl, rfl⟩ rfl rfl rfl (Nat.le_of_ble_eq_true rfl) (congrArg Prod.fst (tx_t hx)) rfl ?_
        exact a_vret rfl rfl
      · refine ⟨h2, ⟨F2, D2, a3, a4⟩, ?_⟩
        show avA _ 75 0 [.ref 72, .int (nI (o)), mvU] [] _ _
        refine a_aload_0 rfl rfl ?_
        refine a_geti rfl rfl rfl (fun _ _ _ => rfl) ?_
        refine a_as (y := nI (0)) H.2.2.2.1 ?_
        refine a_ifN_eq rfl rfl rfl (by omega) (fun _ => ?_) (fun c_4 => False.elim (by omega))
        refine a_aload_0 rfl rfl ?_
        refine a_getr rfl rfl rfl (fun _ _ _ => rfl) rfl ?_
        refine a_virtI rfl rfl (e_token H.1) (by omega) ⟨rfl, rfl, rfl, rfl⟩ rfl rfl rfl (Nat.le_of_ble_eq_true rfl) rfl rfl ?_
        refine a_bipush (v := (nI 30)) rfl rfl rfl ?_
        refine a_cmpN_ne rfl rfl rfl (by omega) (by omega) (fun _ => ?_) (fun c_17 => False.elim (by omega))
        refine a_aload_0 rfl rfl ?_
        refine a_iload_1 rfl rfl ?_
        refine a_virt0 rfl rfl (C) (by omega) ⟨rfl, rfl, rfl, rfl⟩ rfl rfl rfl (Nat.le_of_ble_eq_true rfl) rfl rfl ?_
        refine a_aload_0 rfl rfl ?_
        refine a_getr rfl rfl rfl (fun _ _ _ => rfl) rfl ?_
        refine a_virtI rfl rfl (e_token hi') (by omega) ⟨rfl, rfl, rfl, rfl⟩ rfl rfl rfl (Nat.le_of_ble_eq_true rfl) rfl rfl ?_
        refine a_istore_2 rfl rfl rfl ?_
        refine a_iload_2 rfl rfl ?_
        refine a_statI rfl rfl (e_compares _ (by omega)) (by omega) ⟨rfl, rfl, rfl⟩ rfl rfl rfl (Nat.le_of_ble_eq_true rfl) rfl ?_
        refine a_ifb_ne rfl rfl rfl (fun c_73 => by first | exact absurd c_73 (fun z => qc (decide_eq_true z)) | exact absurd (fun z => qc (decide_eq_true z)) c_73) (fun _ => ?_)
        refine a_aload_0 rfl rfl ?_
        refine a_iconst (v := (nI 1)) rfl rfl rfl ?_
        refine a_virt0 rfl rfl (e_failD D2 1) (by omega) ⟨rfl, rfl, rfl, rfl⟩ rfl rfl rfl (Nat.le_of_ble_eq_true rfl) rfl rfl ?_
        exact a_vret rfl rfl
  all_goals exact fun q => absurd q (by decide)
end RE
