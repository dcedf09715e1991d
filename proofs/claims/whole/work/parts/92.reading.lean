/-! THE CLASS READS as pd says: what is to be shown, and its loops -/
theorem rB_cases {a : Option Rs} {g : (E1 → Int) → Nat → Option Rs} {r : Rs} (H : rB a g = some r) : (∃ f j, a = some (.inl (f, j)) ∧ g f j = some r) ∨ ∃ c j, a = some (.inr (c, j)) ∧ r = .inr (c, j) := by
  match a, H with
  | some (.inl (f, j)), H => exact Or.inl ⟨f, j, rfl, H⟩
  | some (.inr (c, j)), H => exact Or.inr ⟨c, j, rfl, (Option.some.inj H).symm⟩
/-- from token i, len words of code, to what r says; s0: where its own code begins -/
def RsC (b : Nat → Nat) (k n x law s0 len i D : Nat) (cnd : Bool) (h : Nat → Nat → Int32) (r : Rs) (h' : Nat → Nat → Int32) : Prop := FR x h h' ∧ match r with
  | .inl (f, j) => ∃ len', AL b k n x law j len' h' ∧ len ≤ len' ∧ len' + i ≤ len + j ∧ i ≤ j ∧ h' 72 4 = h 72 4 ∧ (∀ q, q < s0 → h' (98 + 7 * x + 4) q = h (98 + 7 * x + 4) q) ∧ Sg1 law f (h' (98 + 7 * x + 4)) s0 len' D ∧ fB f ∧ (cnd = true → fC f)
  | .inr (c, j) => DD b k n x h' ∧ h' 72 3 = nI c ∧ h' 72 4 = nI (tP b k j)
theorem RsC_pre {b : Nat → Nat} {k n x law s0 len i D len1 i1 : Nat} {cnd : Bool} {h h1 h' : Nat → Nat → Int32} {r : Rs} (H : RsC b k n x law s0 len1 i1 D cnd h1 r h') (F : FR x h h1) (e1 : len ≤ len1) (e2 : len1 + i ≤ len + i1) (e3 : i ≤ i1) (e4 : h1 72 4 = h 72 4) (e5 : ∀ q, q < s0 → h1 (98 + 7 * x + 4) q = h (98 + 7 * x + 4) q) : RsC b k n x law s0 len i D cnd h r h' := by
  obtain ⟨F1, H⟩ := H
  refine ⟨FR_trans F F1, ?_⟩
  match r, H with
  | .inl (f, j), ⟨len', a1, a2, a3, a4, a5, a6, a7⟩ => exact ⟨len', a1, by omega, by omega, by omega, a5.trans e4, fun q hq => (a6 q hq).trans (e5 q hq), a7⟩
  | .inr (c, j), H => exact H
theorem RsC_mono {b : Nat → Nat} {k n x law s0 len i D D' : Nat} {cnd : Bool} {h h' : Nat → Nat → Int32} {r : Rs} (H : RsC b k n x law s0 len i D cnd h r h') (hD : D ≤ D') : RsC b k n x law s0 len i D' cnd h r h' := by
  obtain ⟨F1, H⟩ := H
  refine ⟨F1, ?_⟩
  match r, H with
  | .inl (f, j), ⟨len', a1, a2, a3, a4, a5, a6, a7, a8⟩ => exact ⟨len', a1, a2, a3, a4, a5, a6, Sg1_mono a7 hD, a8⟩
  | .inr (c, j), H => exact H
theorem RsC_bad {b : Nat → Nat} {k n x law s0 len i D c j : Nat} {cnd : Bool} {h h1 h' : Nat → Nat → Int32} (F : FR x h h1) (F1 : FR x h1 h') (D1 : DD b k n x h') (e : h' 72 = h1 72) (e3 : h1 72 3 = nI c) (e4 : h1 72 4 = nI (tP b k j)) : RsC b k n x law s0 len i D cnd h (.inr (c, j)) h' := ⟨FR_trans F F1, D1, by rw [e]; exact e3, by rw [e]; exact e4⟩
abbrev adS (x len : Nat) (v : Int32) (h : Nat → Nat → Int32) : Nat → Nat → Int32 := mvPut (mvPut h (98 + 7 * x + 4) len v) (98 + 7 * x) 5 (nI (len + 1))
section RD
variable {L t : Nat} {lt : Option Nat} {sw : Bool} {gl : Nat → Nat → Int64} {b : Nat → Nat} {k n x law i len : Nat} {h : Nat → Nat → Int32}
theorem adS_72 (v : Int32) (o : Nat) (ho : o < 98) : (adS x len v h) o = h o := (put_ne (by omega)).trans (put_ne (by omega))
theorem adS_AL (H : AL b k n x law i len h) (hl : len + 1 ≤ i) (v : Int32) : AL b k n x law i (len + 1) (adS x len v h) ∧ FR x h (adS x len v h) ∧ (∀ q, q ≠ len → (adS x len v h) (98 + 7 * x + 4) q = h (98 + 7 * x + 4) q) ∧ (adS x len v h) (98 + 7 * x + 4) len = v := by
  obtain ⟨a1, a2, a3, a4, a5, a6, a7⟩ := H
  have f : FR x h (adS x len v h) := FR_put (FR_put FR_refl (by omega)) (by omega)
  refine ⟨⟨CA_fr a1 f (by rw [adS_72 _ _ (by omega)]), ?_, a3, ?_, put_eq, hl, ?_⟩, f, fun q hq => (put_o (by omega)).trans (put_nj hq), (put_o (by omega)).trans put_eq⟩
  · rw [adS_72 _ _ (by omega)]; exact a2
  · rw [adS_72 _ _ (by omega)]; exact a4
  · rw [adS_72 _ _ (by omega)]; exact a7
theorem e_addA (hx : x < t) (H : AL b k n x law i len h) (hl : len + 1 ≤ i) {sg nu : Nat} (h1 : nu ≤ 10000) (h2 : sg < 64) : avE 0 69 [.ref (98 + 7 * x), .int (nI sg), .int (nI nu)] (sD L t lt x sw h gl) (none, sD L t lt x sw (adS x len (nI (nu * 64 + sg)) h) gl) := e_addCode hx H.2.2.2.2.1 (by have := H.1.2.2.1; have := H.1.2.2.2; have := H.1.1.2.2.2.1; omega) h1 h2
end RD
/-- a method that reads -/
def PE (L t : Nat) (lt : Option Nat) (sw : Bool) (gl : Nat → Nat → Int64) (b : Nat → Nat) (k n x law g K dd w : Nat) (cnd : Bool) (m : Nat) : Prop := ∀ (f : E1 → Int) (o i len : Nat) (h : Nat → Nat → Int32) (r : Rs), pd law (cdT b k) (nmT b k) m g f o i = some r → o ≤ 8 → AL b k n x law i len h → ∃ h', RsC b k n x law len len i (5 * (8 - o) + w) cnd h r h' ∧ avE (8 * (8 - o) + dd) K [.ref 72, .int (nI o)] (sD L t lt x sw h gl) (none, sD L t lt x sw h' gl)
/-- its loop, from its head on -/
def PL (L t : Nat) (lt : Option Nat) (sw : Bool) (gl : Nat → Nat → Int64) (b : Nat → Nat) (k n x law g K dd w ln : Nat) (cnd : Bool) (m : Nat) : Prop := ∀ (f : E1 → Int) (o i len : Nat) (h : Nat → Nat → Int32) (r : Rs) (s0 c : Nat) (ys : List Value), pd law (cdT b k) (nmT b k) m g f o i = some r → o ≤ 8 → AL b k n x law i len h → c ≤ i → s0 ≤ len → Sg1 law f (h (98 + 7 * x + 4)) s0 len (5 * (8 - o) + w) → fB f → (cnd = true → fC f) → ys.length = ln → ∃ h', RsC b k n x law s0 len i (5 * (8 - o) + w) cnd h r h' ∧ avA (8 * (8 - o) + dd) K 7 ([.ref 72, .int (nI o), .int (nI c)] ++ ys) [] (sD L t lt x sw h gl) (none, sD L t lt x sw h' gl)
section RE
variable {L t : Nat} {lt : Option Nat} {sw : Bool} {gl : Nat → Nat → Int64} {b : Nat → Nat} {k n x law : Nat}
theorem l_ProductD {h : Nat → Nat → Int32} (H : DD b k n x h) (o c : Nat) (y : Value) (d : Nat) (hc : c ≤ 301) : avA d 65 7 [.ref 72, .int (nI o), .int (nI c), y] [] (sD L t lt x sw h gl) (none, sD L t lt x sw h gl) := by
  obtain ⟨_, ⟨c', e, h1, h2⟩, _⟩ := H
  refine a_iload_2 rfl rfl ?_
  refine a_sipush (v := (nI 300)) rfl rfl rfl ?_
  refine a_cmpN_ge rfl rfl rfl (by omega) (by omega) (fun c_11 => ?_) (fun c_11 => ?_)
  · exact a_vret rfl rfl
  · refine a_aload_0 rfl rfl ?_
    refine a_geti rfl rfl rfl (fun _ _ _ => rfl) ?_
    refine a_as (y := nI (c')) e ?_
    refine a_ifN_ne rfl rfl rfl (by omega) (fun _ => ?_) (fun c_18 => False.elim (by omega))
    exact a_vret rfl rfl
theorem l_SumD {h : Nat → Nat → Int32} (H : DD b k n x h) (o c : Nat) (y : Value) (d : Nat) (hc : c ≤ 301) : avA d 64 7 [.ref 72, .int (nI o), .int (nI c), y] [] (sD L t lt x sw h gl) (none, sD L t lt x sw h gl) := by
  obtain ⟨_, ⟨c', e, h1, h2⟩, _⟩ := H
  refine a_iload_2 rfl rfl ?_
  refine a_sipush (v := (nI 300)) rfl rfl rfl ?_
  refine a_cmpN_ge rfl rfl rfl (by omega) (by omega) (fun c_11 => ?_) (fun c_11 => ?_)
  · exact a_vret rfl rfl
  · refine a_aload_0 rfl rfl ?_
    refine a_geti rfl rfl rfl (fun _ _ _ => rfl) ?_
    refine a_as (y := nI (c')) e ?_
    refine a_ifN_ne rfl rfl rfl (by omega) (fun _ => ?_) (fun c_18 => False.elim (by omega))
    exact a_vret rfl rfl
theorem l_BothD {h : Nat → Nat → Int32} (H : DD b k n x h) (o c : Nat) (d : Nat) (hc : c ≤ 301) : avA d 74 7 [.ref 72, .int (nI o), .int (nI c)] [] (sD L t lt x sw h gl) (none, sD L t lt x sw h gl) := by
  obtain ⟨_, ⟨c', e, h1, h2⟩, _⟩ := H
  refine a_iload_2 rfl rfl ?_
  refine a_sipush (v := (nI 300)) rfl rfl rfl ?_
  refine a_cmpN_ge rfl rfl rfl (by omega) (by omega) (fun c_11 => ?_) (fun c_11 => ?_)
  · exact a_vret rfl rfl
  · refine a_aload_0 rfl rfl ?_
    refine a_geti rfl rfl rfl (fun _ _ _ => rfl) ?_
    refine a_as (y := nI (c')) e ?_
    refine a_ifN_ne rfl rfl rfl (by omega) (fun _ => ?_) (fun c_18 => False.elim (by omega))
    exact a_vret rfl rfl
theorem l_EitherD {h : Nat → Nat → Int32} (H : DD b k n x h) (o c : Nat) (d : Nat) (hc : c ≤ 301) : avA d 73 7 [.ref 72, .int (nI o), .int (nI c)] [] (sD L t lt x sw h gl) (none, sD L t lt x sw h gl) := by
  obtain ⟨_, ⟨c', e, h1, h2⟩, _⟩ := H
  refine a_iload_2 rfl rfl ?_
  refine a_sipush (v := (nI 300)) rfl rfl rfl ?_
  refine a_cmpN_ge rfl rfl rfl (by omega) (by omega) (fun c_11 => ?_) (fun c_11 => ?_)
  · exact a_vret rfl rfl
  · refine a_aload_0 rfl rfl ?_
    refine a_geti rfl rfl rfl (fun _ _ _ => rfl) ?_
    refine a_as (y := nI (c')) e ?_
    refine a_ifN_ne rfl rfl rfl (by omega) (fun _ => ?_) (fun c_18 => False.elim (by omega))
    exact a_vret rfl rfl
theorem pl_Product (hx : x < t) (m : Nat) (I1 : PE L t lt sw gl b k n x law 0 66 5 1 false m) (I2 : PL L t lt sw gl b k n x law 2 65 6 2 1 false m) : PL L t lt sw gl b k n x law 2 65 6 2 1 false (m + 1) := by
  intro f o i len h r s0 c ys hp ho H hc hs F bf cf hy
  obtain ⟨y, rfl⟩ : ∃ y, ys = [y] := List.length_eq_one_iff.mp hy
  have l3 := (CA_at H.1).2.2.2
  have l4 := H.1.2.2.1; have l5 := H.1.2.2.2; have l6 := H.1.1.2.2.2.1; have l7 := H.2.2.2.2.2.1
  rw [pd] at hp
  by_cases q : cdT b k i = 38 ∨ cdT b k i = 39
  · rw [if_pos q] at hp
    have hin := CA_lt H.1 (by omega)
    have H1 := AL_adv H hin
    have c1 : ∀ q, (mvPut h 68 4 (nI (i + 1))) (98 + 7 * x + 4) q = h (98 + 7 * x + 4) q := fun q => put_o (by omega)
    have F1 : FR x h (mvPut h 68 4 (nI (i + 1))) := FR_put FR_refl (by omega)
    rcases rB_cases hp with ⟨g, j, e1, e2⟩ | ⟨c', j, e1, rfl⟩
    · obtain ⟨h2, ⟨F2, len2, A2, a3, a4, a5, a6, a7, a8, a9, _⟩, C⟩ := I1 _ o (i + 1) len _ _ e1 ho H1
      obtain ⟨A3, F3, a10, a11⟩ := adS_AL A2 (by omega) (nI (0 * 64 + cdT b k i))
      have ok : ∀ E, eOK E → jnOk (cdT b k i) (f E) (g E) := fun E _ => Or.inl (by omega)
      have S : Sg1 law (bn (cdT b k i) f g) ((adS x len2 (nI (0 * 64 + cdT b k i)) h2) (98 + 7 * x + 4)) s0 (len2 + 1) (5 * (8 - o) + 2) := Sg1_bin (Sg1_cg F (fun q _ hq => (a10 q (by omega)).trans ((a7 q hq).trans (c1 q)))) (Sg1_cg a8 (fun q _ hq => a10 q (by omega))) bf a9 ok (by omega) a11 (by omega) (Nat.le_refl _) (by omega) (by omega)
      obtain ⟨h4, R4, C4⟩ := I2 _ o j (len2 + 1) _ r s0 (c + 1) [.int (nI (cdT b k i))] e2 ho A3 (by omega) (by omega) S (bn_B bf a9 ok) (fun q => absurd q (by decide)) rfl
      refine ⟨h4, RsC_pre R4 (FR_trans F1 (FR_trans F2 F3)) (by omega) (by omega) (by omega) ?_ (fun q hq => (a10 q (by omega)).trans ((a7 q (by omega)).trans (c1 q))), ?_⟩
      · rw [adS_72 _ _ (by omega), a6]; exact put_o (by omega)
      · refine a_iload_2 rfl rfl ?_
        refine a_sipush (v := (nI 300)) rfl rfl rfl ?_
        refine a_cmpN_ge rfl rfl rfl (by omega) (by omega) (fun c_11 => False.elim (by omega)) (fun _ => ?_)
        refine a_aload_0 rfl rfl ?_
        refine a_geti rfl rfl rfl (fun _ _ _ => rfl) ?_
        refine a_as (y := nI (0)) H.2.2.2.1 ?_
        refine a_ifN_ne rfl rfl rfl (by omega) (fun c_18 => False.elim (by omega)) (fun _ => ?_)
        refine a_aload_0 rfl rfl ?_
        refine a_getr rfl rfl rfl (fun _ _ _ => rfl) rfl ?_
        refine a_virtI rfl rfl (e_token H.1) (by omega) ⟨rfl, rfl, rfl, rfl⟩ rfl rfl rfl (Nat.le_of_ble_eq_true rfl) rfl rfl ?_
        refine a_istore_3 rfl rfl rfl ?_
        refine a_iload_3 rfl rfl ?_
        refine a_bipush (v := (nI 38)) rfl rfl rfl ?_
        refine a_cmpN_eq rfl rfl rfl (by omega) (by omega) (fun c_32 => ?_) (fun c_32 => ?_)
        · refine a_aload_0 rfl rfl ?_
          refine a_iload_3 rfl rfl ?_
          refine a_virt0 rfl rfl (e_takeT H rfl (by omega)) (by omega) ⟨rfl, rfl, rfl, rfl⟩ rfl rfl rfl (Nat.le_of_ble_eq_true rfl) rfl rfl ?_
          refine a_aload_0 rfl rfl ?_
          refine a_iload_1 rfl rfl ?_
          refine a_virt0 rfl rfl (C) (by omega) ⟨rfl, rfl, rfl, rfl⟩ rfl rfl rfl (Nat.le_of_ble_eq_true rfl) rfl rfl ?_
          refine a_aload_0 rfl rfl ?_
          refine a_getr rfl rfl rfl (fun _ _ _ => rfl) rfl ?_
          refine a_iload_3 rfl rfl ?_
          refine a_iconst (v := (nI 0)) rfl rfl rfl ?_
          refine a_virt0 rfl rfl (e_addA hx A2 (by omega) (by omega) (by omega)) (by omega) ⟨rfl, rfl, rfl, rfl⟩ rfl rfl rfl (Nat.le_of_ble_eq_true rfl) (congrArg Prod.fst (tx_t hx)) rfl ?_
          refine a_iinc_2 rfl rfl (nI_inc _ _) rfl ?_
          refine a_goto rfl rfl ?_
          exact C4
        · refine a_iload_3 rfl rfl ?_
          refine a_bipush (v := (nI 39)) rfl rfl rfl ?_
          refine a_cmpN_eq rfl rfl rfl (by omega) (by omega) (fun _ => ?_) (fun c_38 => False.elim (by omega))
          refine a_aload_0 rfl rfl ?_
          refine a_iload_3 rfl rfl ?_
          refine a_virt0 rfl rfl (e_takeT H rfl (by omega)) (by omega) ⟨rfl, rfl, rfl, rfl⟩ rfl rfl rfl (Nat.le_of_ble_eq_true rfl) rfl rfl ?_
          refine a_aload_0 rfl rfl ?_
          refine a_iload_1 rfl rfl ?_
          refine a_virt0 rfl rfl (C) (by omega) ⟨rfl, rfl, rfl, rfl⟩ rfl rfl rfl (Nat.le_of_ble_eq_true rfl) rfl rfl ?_
          refine a_aload_0 rfl rfl ?_
          refine a_getr rfl rfl rfl (fun _ _ _ => rfl) rfl ?_
          refine a_iload_3 rfl rfl ?_
          refine a_iconst (v := (nI 0)) rfl rfl rfl ?_
          refine a_virt0 rfl rfl (e_addA hx A2 (by omega) (by omega) (by omega)) (by omega) ⟨rfl, rfl, rfl, rfl⟩ rfl rfl rfl (Nat.le_of_ble_eq_true rfl) (congrArg Prod.fst (tx_t hx)) rfl ?_
          refine a_iinc_2 rfl rfl (nI_inc _ _) rfl ?_
          refine a_goto rfl rfl ?_
          exact C4
    · obtain ⟨h2, ⟨F2, D2, a3, a4⟩, C⟩ := I1 _ o (i + 1) len _ _ e1 ho H1
      have D3 := dAdd_DD D2 (cdT b k i) 0
      obtain ⟨_, ⟨c2, e, g1, g2⟩, _⟩ := id D3
      refine ⟨dAdd x (cdT b k i) 0 h2, RsC_bad (FR_trans F1 F2) (dAdd_FR _ _) D3 (dAdd_72 _ _ _ (by omega)) a3 a4, ?_⟩
      refine a_iload_2 rfl rfl ?_
      refine a_sipush (v := (nI 300)) rfl rfl rfl ?_
      refine a_cmpN_ge rfl rfl rfl (by omega) (by omega) (fun c_11 => False.elim (by omega)) (fun _ => ?_)
      refine a_aload_0 rfl rfl ?_
      refine a_geti rfl rfl rfl (fun _ _ _ => rfl) ?_
      refine a_as (y := nI (0)) H.2.2.2.1 ?_
      refine a_ifN_ne rfl rfl rfl (by omega) (fun c_18 => False.elim (by omega)) (fun _ => ?_)
      refine a_aload_0 rfl rfl ?_
      refine a_getr rfl rfl rfl (fun _ _ _ => rfl) rfl ?_
      refine a_virtI rfl rfl (e_token H.1) (by omega) ⟨rfl, rfl, rfl, rfl⟩ rfl rfl rfl (Nat.le_of_ble_eq_true rfl) rfl rfl ?_
      refine a_istore_3 rfl rfl rfl ?_
      refine a_iload_3 rfl rfl ?_
      refine a_bipush (v := (nI 38)) rfl rfl rfl ?_
      refine a_cmpN_eq rfl rfl rfl (by omega) (by omega) (fun c_32 => ?_) (fun c_32 => ?_)
      · refine a_aload_0 rfl rfl ?_
        refine a_iload_3 rfl rfl ?_
        refine a_virt0 rfl rfl (e_takeT H rfl (by omega)) (by omega) ⟨rfl, rfl, rfl, rfl⟩ rfl rfl rfl (Nat.le_of_ble_eq_true rfl) rfl rfl ?_
        refine a_aload_0 rfl rfl ?_
        refine a_iload_1 rfl rfl ?_
        refine a_virt0 rfl rfl (C) (by omega) ⟨rfl, rfl, rfl, rfl⟩ rfl rfl rfl (Nat.le_of_ble_eq_true rfl) rfl rfl ?_
        refine a_aload_0 rfl rfl ?_
        refine a_getr rfl rfl rfl (fun _ _ _ => rfl) rfl ?_
        refine a_iload_3 rfl rfl ?_
        refine a_iconst (v := (nI 0)) rfl rfl rfl ?_
        refine a_virt0 rfl rfl (e_addD hx D2 (by omega) (by omega)) (by omega) ⟨rfl, rfl, rfl, rfl⟩ rfl rfl rfl (Nat.le_of_ble_eq_true rfl) (congrArg Prod.fst (tx_t hx)) rfl ?_
        refine a_iinc_2 rfl rfl (nI_inc _ _) rfl ?_
        refine a_goto rfl rfl ?_
        exact l_ProductD D3 o (c + 1) _ _ (by omega)
      · refine a_iload_3 rfl rfl ?_
        refine a_bipush (v := (nI 39)) rfl rfl rfl ?_
        refine a_cmpN_eq rfl rfl rfl (by omega) (by omega) (fun _ => ?_) (fun c_38 => False.elim (by omega))
        refine a_aload_0 rfl rfl ?_
        refine a_iload_3 rfl rfl ?_
        refine a_virt0 rfl rfl (e_takeT H rfl (by omega)) (by omega) ⟨rfl, rfl, rfl, rfl⟩ rfl rfl rfl (Nat.le_of_ble_eq_true rfl) rfl rfl ?_
        refine a_aload_0 rfl rfl ?_
        refine a_iload_1 rfl rfl ?_
        refine a_virt0 rfl rfl (C) (by omega) ⟨rfl, rfl, rfl, rfl⟩ rfl rfl rfl (Nat.le_of_ble_eq_true rfl) rfl rfl ?_
        refine a_aload_0 rfl rfl ?_
        refine a_getr rfl rfl rfl (fun _ _ _ => rfl) rfl ?_
        refine a_iload_3 rfl rfl ?_
        refine a_iconst (v := (nI 0)) rfl rfl rfl ?_
        refine a_virt0 rfl rfl (e_addD hx D2 (by omega) (by omega)) (by omega) ⟨rfl, rfl, rfl, rfl⟩ rfl rfl rfl (Nat.le_of_ble_eq_true rfl) (congrArg Prod.fst (tx_t hx)) rfl ?_
        refine a_iinc_2 rfl rfl (nI_inc _ _) rfl ?_
        refine a_goto rfl rfl ?_
        exact l_ProductD D3 o (c + 1) _ _ (by omega)
  · rw [if_neg q] at hp
    obtain rfl := Option.some.inj hp
    refine ⟨h, ⟨FR_refl, len, H, Nat.le_refl _, by omega, Nat.le_refl _, rfl, fun _ _ => rfl, F, bf, cf⟩, ?_⟩
    refine a_iload_2 rfl rfl ?_
    refine a_sipush (v := (nI 300)) rfl rfl rfl ?_
    refine a_cmpN_ge rfl rfl rfl (by omega) (by omega) (fun c_11 => ?_) (fun c_11 => ?_)
    · exact a_vret rfl rfl
    · refine a_aload_0 rfl rfl ?_
      refine a_geti rfl rfl rfl (fun _ _ _ => rfl) ?_
      refine a_as (y := nI (0)) H.2.2.2.1 ?_
      refine a_ifN_ne rfl rfl rfl (by omega) (fun c_18 => False.elim (by omega)) (fun _ => ?_)
      refine a_aload_0 rfl rfl ?_
      refine a_getr rfl rfl rfl (fun _ _ _ => rfl) rfl ?_
      refine a_virtI rfl rfl (e_token H.1) (by omega) ⟨rfl, rfl, rfl, rfl⟩ rfl rfl rfl (Nat.le_of_ble_eq_true rfl) rfl rfl ?_
      refine a_istore_3 rfl rfl rfl ?_
      refine a_iload_3 rfl rfl ?_
      refine a_bipush (v := (nI 38)) rfl rfl rfl ?_
      refine a_cmpN_eq rfl rfl rfl (by omega) (by omega) (fun c_32 => False.elim (by omega)) (fun _ => ?_)
      refine a_iload_3 rfl rfl ?_
      refine a_bipush (v := (nI 39)) rfl rfl rfl ?_
      refine a_cmpN_eq rfl rfl rfl (by omega) (by omega) (fun c_38 => False.elim (by omega)) (fun _ => ?_)
      exact a_vret rfl rfl
theorem pl_Sum (hx : x < t) (m : Nat) (I1 : PE L t lt sw gl b k n x law 1 65 6 2 false m) (I2 : PL L t lt sw gl b k n x law 4 64 7 3 1 false m) : PL L t lt sw gl b k n x law 4 64 7 3 1 false (m + 1) := by
  intro f o i len h r s0 c ys hp ho H hc hs F bf cf hy
  obtain ⟨y, rfl⟩ : ∃ y, ys = [y] := List.length_eq_one_iff.mp hy
  have l3 := (CA_at H.1).2.2.2
  have l4 := H.1.2.2.1; have l5 := H.1.2.2.2; have l6 := H.1.1.2.2.2.1; have l7 := H.2.2.2.2.2.1
  rw [pd] at hp
  by_cases q : cdT b k i = 36 ∨ cdT b k i = 37
  · rw [if_pos q] at hp
    have hin := CA_lt H.1 (by omega)
    have H1 := AL_adv H hin
    have c1 : ∀ q, (mvPut h 68 4 (nI (i + 1))) (98 + 7 * x + 4) q = h (98 + 7 * x + 4) q := fun q => put_o (by omega)
    have F1 : FR x h (mvPut h 68 4 (nI (i + 1))) := FR_put FR_refl (by omega)
    rcases rB_cases hp with ⟨g, j, e1, e2⟩ | ⟨c', j, e1, rfl⟩
    · obtain ⟨h2, ⟨F2, len2, A2, a3, a4, a5, a6, a7, a8, a9, _⟩, C⟩ := I1 _ o (i + 1) len _ _ e1 ho H1
      obtain ⟨A3, F3, a10, a11⟩ := adS_AL A2 (by omega) (nI (0 * 64 + cdT b k i))
      have ok : ∀ E, eOK E → jnOk (cdT b k i) (f E) (g E) := fun E _ => Or.inl (by omega)
      have S : Sg1 law (bn (cdT b k i) f g) ((adS x len2 (nI (0 * 64 + cdT b k i)) h2) (98 + 7 * x + 4)) s0 (len2 + 1) (5 * (8 - o) + 3) := Sg1_bin (Sg1_cg F (fun q _ hq => (a10 q (by omega)).trans ((a7 q hq).trans (c1 q)))) (Sg1_cg a8 (fun q _ hq => a10 q (by omega))) bf a9 ok (by omega) a11 (by omega) (Nat.le_refl _) (by omega) (by omega)
      obtain ⟨h4, R4, C4⟩ := I2 _ o j (len2 + 1) _ r s0 (c + 1) [.int (nI (cdT b k i))] e2 ho A3 (by omega) (by omega) S (bn_B bf a9 ok) (fun q => absurd q (by decide)) rfl
      refine ⟨h4, RsC_pre R4 (FR_trans F1 (FR_trans F2 F3)) (by omega) (by omega) (by omega) ?_ (fun q hq => (a10 q (by omega)).trans ((a7 q (by omega)).trans (c1 q))), ?_⟩
      · rw [adS_72 _ _ (by omega), a6]; exact put_o (by omega)
      · refine a_iload_2 rfl rfl ?_
        refine a_sipush (v := (nI 300)) rfl rfl rfl ?_
        refine a_cmpN_ge rfl rfl rfl (by omega) (by omega) (fun c_11 => False.elim (by omega)) (fun _ => ?_)
        refine a_aload_0 rfl rfl ?_
        refine a_geti rfl rfl rfl (fun _ _ _ => rfl) ?_
        refine a_as (y := nI (0)) H.2.2.2.1 ?_
        refine a_ifN_ne rfl rfl rfl (by omega) (fun c_18 => False.elim (by omega)) (fun _ => ?_)
        refine a_aload_0 rfl rfl ?_
        refine a_getr rfl rfl rfl (fun _ _ _ => rfl) rfl ?_
        refine a_virtI rfl rfl (e_token H.1) (by omega) ⟨rfl, rfl, rfl, rfl⟩ rfl rfl rfl (Nat.le_of_ble_eq_true rfl) rfl rfl ?_
        refine a_istore_3 rfl rfl rfl ?_
        refine a_iload_3 rfl rfl ?_
        refine a_bipush (v := (nI 36)) rfl rfl rfl ?_
        refine a_cmpN_eq rfl rfl rfl (by omega) (by omega) (fun c_32 => ?_) (fun c_32 => ?_)
        · refine a_aload_0 rfl rfl ?_
          refine a_iload_3 rfl rfl ?_
          refine a_virt0 rfl rfl (e_takeT H rfl (by omega)) (by omega) ⟨rfl, rfl, rfl, rfl⟩ rfl rfl rfl (Nat.le_of_ble_eq_true rfl) rfl rfl ?_
          refine a_aload_0 rfl rfl ?_
          refine a_iload_1 rfl rfl ?_
          refine a_virt0 rfl rfl (C) (by omega) ⟨rfl, rfl, rfl, rfl⟩ rfl rfl rfl (Nat.le_of_ble_eq_true rfl) rfl rfl ?_
          refine a_aload_0 rfl rfl ?_
          refine a_getr rfl rfl rfl (fun _ _ _ => rfl) rfl ?_
          refine a_iload_3 rfl rfl ?_
          refine a_iconst (v := (nI 0)) rfl rfl rfl ?_
          refine a_virt0 rfl rfl (e_addA hx A2 (by omega) (by omega) (by omega)) (by omega) ⟨rfl, rfl, rfl, rfl⟩ rfl rfl rfl (Nat.le_of_ble_eq_true rfl) (congrArg Prod.fst (tx_t hx)) rfl ?_
          refine a_iinc_2 rfl rfl (nI_inc _ _) rfl ?_
          refine a_goto rfl rfl ?_
          exact C4
        · refine a_iload_3 rfl rfl ?_
          refine a_bipush (v := (nI 37)) rfl rfl rfl ?_
          refine a_cmpN_eq rfl rfl rfl (by omega) (by omega) (fun _ => ?_) (fun c_38 => False.elim (by omega))
          refine a_aload_0 rfl rfl ?_
          refine a_iload_3 rfl rfl ?_
          refine a_virt0 rfl rfl (e_takeT H rfl (by omega)) (by omega) ⟨rfl, rfl, rfl, rfl⟩ rfl rfl rfl (Nat.le_of_ble_eq_true rfl) rfl rfl ?_
          refine a_aload_0 rfl rfl ?_
          refine a_iload_1 rfl rfl ?_
          refine a_virt0 rfl rfl (C) (by omega) ⟨rfl, rfl, rfl, rfl⟩ rfl rfl rfl (Nat.le_of_ble_eq_true rfl) rfl rfl ?_
          refine a_aload_0 rfl rfl ?_
          refine a_getr rfl rfl rfl (fun _ _ _ => rfl) rfl ?_
          refine a_iload_3 rfl rfl ?_
          refine a_iconst (v := (nI 0)) rfl rfl rfl ?_
          refine a_virt0 rfl rfl (e_addA hx A2 (by omega) (by omega) (by omega)) (by omega) ⟨rfl, rfl, rfl, rfl⟩ rfl rfl rfl (Nat.le_of_ble_eq_true rfl) (congrArg Prod.fst (tx_t hx)) rfl ?_
          refine a_iinc_2 rfl rfl (nI_inc _ _) rfl ?_
          refine a_goto rfl rfl ?_
          exact C4
    · obtain ⟨h2, ⟨F2, D2, a3, a4⟩, C⟩ := I1 _ o (i + 1) len _ _ e1 ho H1
      have D3 := dAdd_DD D2 (cdT b k i) 0
      obtain ⟨_, ⟨c2, e, g1, g2⟩, _⟩ := id D3
      refine ⟨dAdd x (cdT b k i) 0 h2, RsC_bad (FR_trans F1 F2) (dAdd_FR _ _) D3 (dAdd_72 _ _ _ (by omega)) a3 a4, ?_⟩
      refine a_iload_2 rfl rfl ?_
      refine a_sipush (v := (nI 300)) rfl rfl rfl ?_
      refine a_cmpN_ge rfl rfl rfl (by omega) (by omega) (fun c_11 => False.elim (by omega)) (fun _ => ?_)
      refine a_aload_0 rfl rfl ?_
      refine a_geti rfl rfl rfl (fun _ _ _ => rfl) ?_
      refine a_as (y := nI (0)) H.2.2.2.1 ?_
      refine a_ifN_ne rfl rfl rfl (by omega) (fun c_18 => False.elim (by omega)) (fun _ => ?_)
      refine a_aload_0 rfl rfl ?_
      refine a_getr rfl rfl rfl (fun _ _ _ => rfl) rfl ?_
      refine a_virtI rfl rfl (e_token H.1) (by omega) ⟨rfl, rfl, rfl, rfl⟩ rfl rfl rfl (Nat.le_of_ble_eq_true rfl) rfl rfl ?_
      refine a_istore_3 rfl rfl rfl ?_
      refine a_iload_3 rfl rfl ?_
      refine a_bipush (v := (nI 36)) rfl rfl rfl ?_
      refine a_cmpN_eq rfl rfl rfl (by omega) (by omega) (fun c_32 => ?_) (fun c_32 => ?_)
      · refine a_aload_0 rfl rfl ?_
        refine a_iload_3 rfl rfl ?_
        refine a_virt0 rfl rfl (e_takeT H rfl (by omega)) (by omega) ⟨rfl, rfl, rfl, rfl⟩ rfl rfl rfl (Nat.le_of_ble_eq_true rfl) rfl rfl ?_
        refine a_aload_0 rfl rfl ?_
        refine a_iload_1 rfl rfl ?_
        refine a_virt0 rfl rfl (C) (by omega) ⟨rfl, rfl, rfl, rfl⟩ rfl rfl rfl (Nat.le_of_ble_eq_true rfl) rfl rfl ?_
        refine a_aload_0 rfl rfl ?_
        refine a_getr rfl rfl rfl (fun _ _ _ => rfl) rfl ?_
        refine a_iload_3 rfl rfl ?_
        refine a_iconst (v := (nI 0)) rfl rfl rfl ?_
        refine a_virt0 rfl rfl (e_addD hx D2 (by omega) (by omega)) (by omega) ⟨rfl, rfl, rfl, rfl⟩ rfl rfl rfl (Nat.le_of_ble_eq_true rfl) (congrArg Prod.fst (tx_t hx)) rfl ?_
        refine a_iinc_2 rfl rfl (nI_inc _ _) rfl ?_
        refine a_goto rfl rfl ?_
        exact l_SumD D3 o (c + 1) _ _ (by omega)
      · refine a_iload_3 rfl rfl ?_
        refine a_bipush (v := (nI 37)) rfl rfl rfl ?_
        refine a_cmpN_eq rfl rfl rfl (by omega) (by omega) (fun _ => ?_) (fun c_38 => False.elim (by omega))
        refine a_aload_0 rfl rfl ?_
        refine a_iload_3 rfl rfl ?_
        refine a_virt0 rfl rfl (e_takeT H rfl (by omega)) (by omega) ⟨rfl, rfl, rfl, rfl⟩ rfl rfl rfl (Nat.le_of_ble_eq_true rfl) rfl rfl ?_
        refine a_aload_0 rfl rfl ?_
        refine a_iload_1 rfl rfl ?_
        refine a_virt0 rfl rfl (C) (by omega) ⟨rfl, rfl, rfl, rfl⟩ rfl rfl rfl (Nat.le_of_ble_eq_true rfl) rfl rfl ?_
        refine a_aload_0 rfl rfl ?_
        refine a_getr rfl rfl rfl (fun _ _ _ => rfl) rfl ?_
        refine a_iload_3 rfl rfl ?_
        refine a_iconst (v := (nI 0)) rfl rfl rfl ?_
        refine a_virt0 rfl rfl (e_addD hx D2 (by omega) (by omega)) (by omega) ⟨rfl, rfl, rfl, rfl⟩ rfl rfl rfl (Nat.le_of_ble_eq_true rfl) (congrArg Prod.fst (tx_t hx)) rfl ?_
        refine a_iinc_2 rfl rfl (nI_inc _ _) rfl ?_
        refine a_goto rfl rfl ?_
        exact l_SumD D3 o (c + 1) _ _ (by omega)
  · rw [if_neg q] at hp
    obtain rfl := Option.some.inj hp
    refine ⟨h, ⟨FR_refl, len, H, Nat.le_refl _, by omega, Nat.le_refl _, rfl, fun _ _ => rfl, F, bf, cf⟩, ?_⟩
    refine a_iload_2 rfl rfl ?_
    refine a_sipush (v := (nI 300)) rfl rfl rfl ?_
    refine a_cmpN_ge rfl rfl rfl (by omega) (by omega) (fun c_11 => ?_) (fun c_11 => ?_)
    · exact a_vret rfl rfl
    · refine a_aload_0 rfl rfl ?_
      refine a_geti rfl rfl rfl (fun _ _ _ => rfl) ?_
      refine a_as (y := nI (0)) H.2.2.2.1 ?_
      refine a_ifN_ne rfl rfl rfl (by omega) (fun c_18 => False.elim (by omega)) (fun _ => ?_)
      refine a_aload_0 rfl rfl ?_
      refine a_getr rfl rfl rfl (fun _ _ _ => rfl) rfl ?_
      refine a_virtI rfl rfl (e_token H.1) (by omega) ⟨rfl, rfl, rfl, rfl⟩ rfl rfl rfl (Nat.le_of_ble_eq_true rfl) rfl rfl ?_
      refine a_istore_3 rfl rfl rfl ?_
      refine a_iload_3 rfl rfl ?_
      refine a_bipush (v := (nI 36)) rfl rfl rfl ?_
      refine a_cmpN_eq rfl rfl rfl (by omega) (by omega) (fun c_32 => False.elim (by omega)) (fun _ => ?_)
      refine a_iload_3 rfl rfl ?_
      refine a_bipush (v := (nI 37)) rfl rfl rfl ?_
      refine a_cmpN_eq rfl rfl rfl (by omega) (by omega) (fun c_38 => False.elim (by omega)) (fun _ => ?_)
      exact a_vret rfl rfl
end RE
