/-! THE CLASS READS: one of a sum -/
theorem nl_has : ∀ law, law < 3 → ∀ j, j < 11 → tb (msNames.getD j 0) law = nmOk law j := by decide +kernel
theorem aim_cd (len v sg : Nat) (h1 : len ≤ 300) (h2 : v ≤ 10000) (h3 : sg < 64) : (nI len <<< (nI 6 &&& 31) ||| nI (v * 64 + sg) &&& nI 63) = nI (len * 64 + sg) := by
  rw [show nI (v * 64 + sg) &&& nI 63 = nI sg by rw [pk_andN (by omega) 6 (by decide)]; congr 1; omega]
  exact pk_cd len sg (by omega) h3
section RO
variable {L t : Nat} {lt : Option Nat} {sw : Bool} {gl : Nat → Nat → Int64} {b : Nat → Nat} {k n x law : Nat}
theorem e_aim {h : Nat → Nat → Int32} (hx : x < t) {p len v sg : Nat} (hl : h (98 + 7 * x) 5 = nI len) (l1 : p < len) (l2 : len ≤ 300) (hc : h (98 + 7 * x + 4) p = nI (v * 64 + sg)) (h1 : v ≤ 10000) (h2 : sg < 64) : avE 0 77 [.ref (98 + 7 * x), .int (nI p)] (sD L t lt x sw h gl) (none, sD L t lt x sw (mvPut h (98 + 7 * x + 4) p (nI (len * 64 + sg))) gl) := by
  show avA _ 77 0 [.ref (98 + 7 * x), .int (nI (p))] [] _ _
  refine a_iload_1 rfl rfl ?_
  refine a_ifN_lt rfl rfl rfl (by omega) (fun c_1 => False.elim (c_1)) (fun _ => ?_)
  refine a_iload_1 rfl rfl ?_
  refine a_aload_0 rfl rfl ?_
  refine a_geti rfl rfl (congrArg Prod.fst (tx_t hx)) (fun _ _ _ => rfl) ?_
  refine a_as (y := nI (len)) hl ?_
  refine a_cmpN_ge rfl rfl rfl (by omega) (by omega) (fun c_9 => False.elim (by omega)) (fun _ => ?_)
  refine a_aload_0 rfl rfl ?_
  refine a_getr rfl rfl (congrArg Prod.fst (tx_t hx)) (fun _ _ _ => rfl) (tx_r4 hx) ?_
  refine a_iload_1 rfl rfl ?_
  refine a_aload_0 rfl rfl ?_
  refine a_geti rfl rfl (congrArg Prod.fst (tx_t hx)) (fun _ _ _ => rfl) ?_
  refine a_as (y := nI (len)) hl ?_
  refine a_bipush (v := (nI 6)) rfl rfl rfl ?_
  refine a_ishl rfl rfl ?_
  refine a_aload_0 rfl rfl ?_
  refine a_getr rfl rfl (congrArg Prod.fst (tx_t hx)) (fun _ _ _ => rfl) (tx_r4 hx) ?_
  refine a_iload_1 rfl rfl ?_
  refine a_iald rfl rfl (Or.inl (tx_4 hx)) rfl (by omega) (by decide) ?_
  refine a_as (y := nI (v * 64 + sg)) hc ?_
  refine a_bipush (v := (nI 63)) rfl rfl rfl ?_
  refine a_iand rfl rfl ?_
  refine a_ior rfl rfl ?_
  refine a_as (y := nI (len * 64 + sg)) (aim_cd len v sg l2 h1 h2) ?_
  refine a_iast rfl rfl (tx_4 hx) rfl (by omega) (by decide) ?_
  exact a_vret rfl rfl
def dAim (x p : Nat) (h : Nat → Nat → Int32) : Nat → Nat → Int32 := if (p : Int) < (h (98 + 7 * x) 5).toInt then mvPut h (98 + 7 * x + 4) p (h (98 + 7 * x) 5 <<< (nI 6 &&& 31) ||| h (98 + 7 * x + 4) p &&& nI 63) else h
/-- only garbage behind a fault -/
def DT (b : Nat → Nat) (k n x : Nat) (h h' : Nat → Nat → Int32) : Prop := FR x h h' ∧ DD b k n x h' ∧ h' 72 = h 72
theorem DT_trans {h h' h'' : Nat → Nat → Int32} (H : DT b k n x h h') (G : DT b k n x h' h'') : DT b k n x h h'' := ⟨FR_trans H.1 G.1, G.2.1, G.2.2.trans H.2.2⟩
theorem DT_refl {h : Nat → Nat → Int32} (H : DD b k n x h) : DT b k n x h h := ⟨FR_refl, H, rfl⟩
theorem DT_add {h : Nat → Nat → Int32} (H : DD b k n x h) (sg nu : Nat) : DT b k n x h (dAdd x sg nu h) := ⟨dAdd_FR _ _, dAdd_DD H _ _, dAdd_72 _ _ _ (by omega)⟩
theorem RsC_dt {s0 len i D c j : Nat} {cnd : Bool} {h h1 h' : Nat → Nat → Int32} (F : FR x h h1) (T : DT b k n x h1 h') (e3 : h1 72 3 = nI c) (e4 : h1 72 4 = nI (tP b k j)) : RsC b k n x law s0 len i D cnd h (.inr (c, j)) h' := RsC_bad F T.1 T.2.1 T.2.2 e3 e4
theorem DT_aim {h : Nat → Nat → Int32} (H : DD b k n x h) (p : Nat) : DT b k n x h (dAim x p h) := by
  unfold dAim
  split
  · have f : FR x h (mvPut h (98 + 7 * x + 4) p (h (98 + 7 * x) 5 <<< (nI 6 &&& 31) ||| h (98 + 7 * x + 4) p &&& nI 63)) := FR_put FR_refl (by omega)
    refine ⟨f, DD_of H f (put_o (by omega)) (put_o (by omega)) ?_, put_ne (by omega)⟩
    obtain ⟨_, _, len, l1, l2⟩ := H
    exact ⟨len, l1, (put_o (by omega)).trans l2⟩
  · exact DT_refl H
theorem e_aimD {h : Nat → Nat → Int32} (hx : x < t) (H : DD b k n x h) (p : Nat) (hp : p ≤ 300) : avE 0 77 [.ref (98 + 7 * x), .int (nI p)] (sD L t lt x sw h gl) (none, sD L t lt x sw (dAim x p h) gl) := by
  obtain ⟨_, _, len, l1, l2⟩ := H
  have e : (nI len).toInt = len := nI_toInt (by omega)
  unfold dAim
  rw [l2, e]
  by_cases q : (p : Int) < len
  · rw [if_pos q]
    show avA _ 77 0 [.ref (98 + 7 * x), .int (nI (p))] [] _ _
    refine a_iload_1 rfl rfl ?_
    refine a_ifN_lt rfl rfl rfl (by omega) (fun c_1 => False.elim (c_1)) (fun _ => ?_)
    refine a_iload_1 rfl rfl ?_
    refine a_aload_0 rfl rfl ?_
    refine a_geti rfl rfl (congrArg Prod.fst (tx_t hx)) (fun _ _ _ => rfl) ?_
    refine a_as (y := nI (len)) l2 ?_
    refine a_cmpN_ge rfl rfl rfl (by omega) (by omega) (fun c_9 => False.elim (by omega)) (fun _ => ?_)
    refine a_aload_0 rfl rfl ?_
    refine a_getr rfl rfl (congrArg Prod.fst (tx_t hx)) (fun _ _ _ => rfl) (tx_r4 hx) ?_
    refine a_iload_1 rfl rfl ?_
    refine a_aload_0 rfl rfl ?_
    refine a_geti rfl rfl (congrArg Prod.fst (tx_t hx)) (fun _ _ _ => rfl) ?_
    refine a_as (y := nI (len)) l2 ?_
    refine a_bipush (v := (nI 6)) rfl rfl rfl ?_
    refine a_ishl rfl rfl ?_
    refine a_aload_0 rfl rfl ?_
    refine a_getr rfl rfl (congrArg Prod.fst (tx_t hx)) (fun _ _ _ => rfl) (tx_r4 hx) ?_
    refine a_iload_1 rfl rfl ?_
    refine a_iald rfl rfl (Or.inl (tx_4 hx)) rfl (by omega) (by decide) ?_
    refine a_bipush (v := (nI 63)) rfl rfl rfl ?_
    refine a_iand rfl rfl ?_
    refine a_ior rfl rfl ?_
    refine a_iast rfl rfl (tx_4 hx) rfl (by omega) (by decide) ?_
    exact a_vret rfl rfl
  · rw [if_neg q]
    show avA _ 77 0 [.ref (98 + 7 * x), .int (nI (p))] [] _ _
    refine a_iload_1 rfl rfl ?_
    refine a_ifN_lt rfl rfl rfl (by omega) (fun c_1 => False.elim (c_1)) (fun _ => ?_)
    refine a_iload_1 rfl rfl ?_
    refine a_aload_0 rfl rfl ?_
    refine a_geti rfl rfl (congrArg Prod.fst (tx_t hx)) (fun _ _ _ => rfl) ?_
    refine a_as (y := nI (len)) l2 ?_
    refine a_cmpN_ge rfl rfl rfl (by omega) (by omega) (fun _ => ?_) (fun c_9 => False.elim (by omega))
    exact a_vret rfl rfl
/-! a choice, behind a fault -/
theorem l_ch77 {h : Nat → Nat → Int32} (hx : x < t) (H : DD b k n x h) (o p q d : Nat) (hq : q ≤ 300) : ∃ h', DT b k n x h h' ∧ avA (d + 1) 72 77 [.ref 72, .int (nI o), .int (nI p), .int (nI q)] [] (sD L t lt x sw h gl) (none, sD L t lt x sw h' gl) := by
  refine ⟨_, DT_aim H q, ?_⟩
  refine a_aload_0 rfl rfl ?_
  refine a_getr rfl rfl rfl (fun _ _ _ => rfl) rfl ?_
  refine a_iload_3 rfl rfl ?_
  refine a_virt0 rfl rfl (e_aimD hx H q hq) (by omega) ⟨rfl, rfl, rfl, rfl⟩ rfl rfl rfl (Nat.le_of_ble_eq_true rfl) (congrArg Prod.fst (tx_t hx)) rfl ?_
  exact a_vret rfl rfl
theorem l_ch71 {h : Nat → Nat → Int32} (hx : x < t) (H : DD b k n x h) (o p q d : Nat) (hq : q ≤ 300) : ∃ h', DT b k n x h h' ∧ avA (d + 3) 72 71 [.ref 72, .int (nI o), .int (nI p), .int (nI q)] [] (sD L t lt x sw h gl) (none, sD L t lt x sw h' gl) := by
  obtain ⟨h', T, C⟩ := l_ch77 (L := L) (lt := lt) (sw := sw) (gl := gl) hx H o p q (d + 2) hq
  refine ⟨h', T, ?_⟩
  refine a_aload_0 rfl rfl ?_
  refine a_bipush (v := (nI 27)) rfl rfl rfl ?_
  refine a_virt0 rfl rfl (e_takeD H 27 (by decide)) (by omega) ⟨rfl, rfl, rfl, rfl⟩ rfl rfl rfl (Nat.le_of_ble_eq_true rfl) rfl rfl ?_
  exact C
theorem l_ch40 {h : Nat → Nat → Int32} (hx : x < t) (H : DD b k n x h) (o p d : Nat) (y : Value) (hp : p ≤ 300) : ∃ h', DT b k n x h h' ∧ avA (d + 6) 72 40 [.ref 72, .int (nI o), .int (nI p), y] [] (sD L t lt x sw h gl) (none, sD L t lt x sw h' gl) := by
  have D1 := dAdd_DD H 26 0
  have D2 := (DT_aim D1 p).2.1
  obtain ⟨_, _, len, l1, l2⟩ := id H
  obtain ⟨h', T, C⟩ := l_ch71 (L := L) (lt := lt) (sw := sw) (gl := gl) hx D2 o p len (d + 3) l1
  refine ⟨h', DT_trans (DT_add H 26 0) (DT_trans (DT_aim D1 p) T), ?_⟩
  refine a_aload_0 rfl rfl ?_
  refine a_getr rfl rfl rfl (fun _ _ _ => rfl) rfl ?_
  refine a_geti rfl rfl (congrArg Prod.fst (tx_t hx)) (fun _ _ _ => rfl) ?_
  refine a_as (y := nI (len)) l2 ?_
  refine a_istore_3 rfl rfl rfl ?_
  refine a_aload_0 rfl rfl ?_
  refine a_getr rfl rfl rfl (fun _ _ _ => rfl) rfl ?_
  refine a_bipush (v := (nI 26)) rfl rfl rfl ?_
  refine a_iconst (v := (nI 0)) rfl rfl rfl ?_
  refine a_virt0 rfl rfl (e_addD hx H (by omega) (by omega)) (by omega) ⟨rfl, rfl, rfl, rfl⟩ rfl rfl rfl (Nat.le_of_ble_eq_true rfl) (congrArg Prod.fst (tx_t hx)) rfl ?_
  refine a_aload_0 rfl rfl ?_
  refine a_getr rfl rfl rfl (fun _ _ _ => rfl) rfl ?_
  refine a_iload_2 rfl rfl ?_
  refine a_virt0 rfl rfl (e_aimD hx D1 p hp) (by omega) ⟨rfl, rfl, rfl, rfl⟩ rfl rfl rfl (Nat.le_of_ble_eq_true rfl) (congrArg Prod.fst (tx_t hx)) rfl ?_
  refine a_aload_0 rfl rfl ?_
  refine a_iload_1 rfl rfl ?_
  refine a_virt0 rfl rfl (e_SumD D2 o) (by omega) ⟨rfl, rfl, rfl, rfl⟩ rfl rfl rfl (Nat.le_of_ble_eq_true rfl) rfl rfl ?_
  exact C
theorem l_ch34 {h : Nat → Nat → Int32} (hx : x < t) (H : DD b k n x h) (o p d : Nat) (y : Value) (hp : p ≤ 300) : ∃ h', DT b k n x h h' ∧ avA (d + 6) 72 34 [.ref 72, .int (nI o), .int (nI p), y] [] (sD L t lt x sw h gl) (none, sD L t lt x sw h' gl) := by
  obtain ⟨h', T, C⟩ := l_ch40 (L := L) (lt := lt) (sw := sw) (gl := gl) hx H o p d y hp
  refine ⟨h', T, ?_⟩
  refine a_aload_0 rfl rfl ?_
  refine a_bipush (v := (nI 26)) rfl rfl rfl ?_
  refine a_virt0 rfl rfl (e_takeD H 26 (by decide)) (by omega) ⟨rfl, rfl, rfl, rfl⟩ rfl rfl rfl (Nat.le_of_ble_eq_true rfl) rfl rfl ?_
  exact C
theorem l_ch11 {h : Nat → Nat → Int32} (hx : x < t) (H : DD b k n x h) (o d : Nat) (y z : Value) : ∃ h', DT b k n x h h' ∧ avA (d + 6) 72 11 [.ref 72, .int (nI o), y, z] [] (sD L t lt x sw h gl) (none, sD L t lt x sw h' gl) := by
  have D1 := dAdd_DD H 24 0
  obtain ⟨_, _, len, l1, l2⟩ := id H
  obtain ⟨h', T, C⟩ := l_ch34 (L := L) (lt := lt) (sw := sw) (gl := gl) hx D1 o len d z l1
  refine ⟨h', DT_trans (DT_add H 24 0) T, ?_⟩
  refine a_aload_0 rfl rfl ?_
  refine a_getr rfl rfl rfl (fun _ _ _ => rfl) rfl ?_
  refine a_geti rfl rfl (congrArg Prod.fst (tx_t hx)) (fun _ _ _ => rfl) ?_
  refine a_as (y := nI (len)) l2 ?_
  refine a_istore_2 rfl rfl rfl ?_
  refine a_aload_0 rfl rfl ?_
  refine a_getr rfl rfl rfl (fun _ _ _ => rfl) rfl ?_
  refine a_bipush (v := (nI 24)) rfl rfl rfl ?_
  refine a_iconst (v := (nI 0)) rfl rfl rfl ?_
  refine a_virt0 rfl rfl (e_addD hx H (by omega) (by omega)) (by omega) ⟨rfl, rfl, rfl, rfl⟩ rfl rfl rfl (Nat.le_of_ble_eq_true rfl) (congrArg Prod.fst (tx_t hx)) rfl ?_
  refine a_aload_0 rfl rfl ?_
  refine a_iload_1 rfl rfl ?_
  refine a_virt0 rfl rfl (e_SumD D1 o) (by omega) ⟨rfl, rfl, rfl, rfl⟩ rfl rfl rfl (Nat.le_of_ble_eq_true rfl) rfl rfl ?_
  exact C
theorem l_ch5 {h : Nat → Nat → Int32} (hx : x < t) (H : DD b k n x h) (o d : Nat) (y z : Value) : ∃ h', DT b k n x h h' ∧ avA (d + 6) 72 5 [.ref 72, .int (nI o), y, z] [] (sD L t lt x sw h gl) (none, sD L t lt x sw h' gl) := by
  obtain ⟨h', T, C⟩ := l_ch11 (L := L) (lt := lt) (sw := sw) (gl := gl) hx H o d y z
  refine ⟨h', T, ?_⟩
  refine a_aload_0 rfl rfl ?_
  refine a_bipush (v := (nI 25)) rfl rfl rfl ?_
  refine a_virt0 rfl rfl (e_takeD H 25 (by decide)) (by omega) ⟨rfl, rfl, rfl, rfl⟩ rfl rfl rfl (Nat.le_of_ble_eq_true rfl) rfl rfl ?_
  exact C
/-- what a choice reads, pure -/
def pdC (law : Nat) (cd nm : Nat → Nat) (m o i : Nat) : Option Rs := rB (pd law cd nm m 5 (fun _ => 0) o i) fun q j => if cd j = 25 then rB (pd law cd nm m 3 (fun _ => 0) o (j + 1)) (fun f j2 => if cd j2 = 26 then rB (pd law cd nm m 3 (fun _ => 0) o (j2 + 1)) (fun g j3 => if cd j3 = 27 then rOk (fun E => if q E = 0 then g E else f E) (j3 + 1) else rBad 1 j3) else rBad 1 j2) else rBad 1 j
abbrev adv (h : Nat → Nat → Int32) (j : Nat) : Nat → Nat → Int32 := mvPut h 68 4 (nI (j + 1))
theorem adv_FR {h : Nat → Nat → Int32} (j : Nat) : FR x h (adv h j) := FR_put FR_refl (by omega)
theorem adv_c {h : Nat → Nat → Int32} (j : Nat) (q : Nat) : (adv h j) (98 + 7 * x + 4) q = h (98 + 7 * x + 4) q := put_o (by omega)
theorem adv_4 {h : Nat → Nat → Int32} (j : Nat) : (adv h j) 72 4 = h 72 4 := put_o (by omega)
theorem pe_Choice (hx : x < t) (m : Nat) (I1 : PE L t lt sw gl b k n x law 5 73 10 6 true m) (I2 : PE L t lt sw gl b k n x law 3 64 7 3 false m) (o i len : Nat) (h : Nat → Nat → Int32) (r : Rs) (hp : pdC law (cdT b k) (nmT b k) m o i = some r) (ho : o ≤ 8) (H : AL b k n x law i len h) : ∃ h', RsC b k n x law len len i (5 * (8 - o) + 6) false h r h' ∧ avE (8 * (8 - o) + 11) 72 [.ref 72, .int (nI o)] (sD L t lt x sw h gl) (none, sD L t lt x sw h' gl) := by
  have l5 := H.1.2.2.2; have l6 := H.1.1.2.2.2.1; have l7 := H.2.2.2.2.2.1
  unfold pdC at hp
  rcases rB_cases hp with ⟨q, j, e1, e2⟩ | ⟨c', j, e1, rfl⟩
  · obtain ⟨h1, ⟨F1, len1, A1, a2, a3, a4, a5, a6, a7, a8, a9⟩, C1⟩ := I1 _ o i len _ _ e1 ho H
    by_cases q1 : cdT b k j = 25
    · rw [if_pos q1] at e2
      have hin1 := CA_lt A1.1 (by omega)
      have A2 := AL_adv A1 hin1
      have m1 := A1.2.2.2.2.2.1
      obtain ⟨A3, F3, b1, b2⟩ := adS_AL A2 (by omega) (nI (0 * 64 + 24))
      rcases rB_cases e2 with ⟨f, j2, e3, e4⟩ | ⟨c', j2, e3, rfl⟩
      · obtain ⟨h4, ⟨F4, len4, A4, c2, c3, c4, c5, c6, c7, c8, _⟩, C4⟩ := I2 _ o (j + 1) (len1 + 1) _ _ e3 ho A3
        by_cases q2 : cdT b k j2 = 26
        · rw [if_pos q2] at e4
          have hin2 := CA_lt A4.1 (by omega)
          have A5 := AL_adv A4 hin2
          have m2 := A4.2.2.2.2.2.1
          obtain ⟨A6, F6, d1, d2⟩ := adS_AL A5 (by omega) (nI (0 * 64 + 26))
          have l8 := A5.1.2.2.1
          have at1 : (adS x len4 (nI (0 * 64 + 26)) (adv h4 j2)) (98 + 7 * x + 4) len1 = nI (0 * 64 + 24) := (d1 _ (by omega)).trans ((adv_c _ _).trans ((c6 len1 (by omega)).trans b2))
          have F7 : FR x (adS x len4 (nI (0 * 64 + 26)) (adv h4 j2)) (mvPut (adS x len4 (nI (0 * 64 + 26)) (adv h4 j2)) (98 + 7 * x + 4) len1 (nI ((len4 + 1) * 64 + 24))) := FR_put FR_refl (by omega)
          have A7 : AL b k n x law (j2 + 1) (len4 + 1) (mvPut (adS x len4 (nI (0 * 64 + 26)) (adv h4 j2)) (98 + 7 * x + 4) len1 (nI ((len4 + 1) * 64 + 24))) := by
            obtain ⟨z1, z2, z3, z4, z5, z6, z7⟩ := A6
            exact ⟨CA_fr z1 F7 (put_o (by omega)), (put_o (by omega)).trans z2, z3, (put_o (by omega)).trans z4, (put_o (by omega)).trans z5, z6, (put_ne (by omega)).trans z7⟩
          have Caim := e_aim (L := L) (lt := lt) (sw := sw) (gl := gl) hx A6.2.2.2.2.1 (by omega : len1 < len4 + 1) (by omega) at1 (by omega) (by omega)
          rcases rB_cases e4 with ⟨g, j3, e5, e6⟩ | ⟨c', j3, e5, rfl⟩
          · obtain ⟨h8, ⟨F8, len8, A8, f2, f3, f4, f5, f6, f7, f8, _⟩, C8⟩ := I2 _ o (j2 + 1) (len4 + 1) _ _ e5 ho A7
            have l9 := A8.1.2.2.1
            have m3 := A8.2.2.2.2.2.1
            by_cases q3 : cdT b k j3 = 27
            · rw [if_pos q3] at e6
              obtain rfl := Option.some.inj e6
              have hin3 := CA_lt A8.1 (by omega)
              have A9 := AL_adv A8 hin3
              have at2 : (adv h8 j3) (98 + 7 * x + 4) len4 = nI (0 * 64 + 26) := (adv_c _ _).trans ((f6 len4 (by omega)).trans ((put_nj (by omega)).trans d2))
              have F10 : FR x (adv h8 j3) (mvPut (adv h8 j3) (98 + 7 * x + 4) len4 (nI (len8 * 64 + 26))) := FR_put FR_refl (by omega)
              have A10 : AL b k n x law (j3 + 1) len8 (mvPut (adv h8 j3) (98 + 7 * x + 4) len4 (nI (len8 * 64 + 26))) := by
                obtain ⟨z1, z2, z3, z4, z5, z6, z7⟩ := A9
                exact ⟨CA_fr z1 F10 (put_o (by omega)), (put_o (by omega)).trans z2, z3, (put_o (by omega)).trans z4, (put_o (by omega)).trans z5, z6, (put_ne (by omega)).trans z7⟩
              have Caim2 := e_aim (L := L) (lt := lt) (sw := sw) (gl := gl) hx A9.2.2.2.2.1 (by omega : len4 < len8) (by omega) at2 (by omega) (by omega)
              have key : ∀ p, p ≠ len4 → p ≠ len1 → p < len4 + 1 → (mvPut (adv h8 j3) (98 + 7 * x + 4) len4 (nI (len8 * 64 + 26))) (98 + 7 * x + 4) p = h4 (98 + 7 * x + 4) p := fun p g1 g2 g3 => (put_nj g1).trans ((adv_c _ _).trans ((f6 p g3).trans ((put_nj g2).trans ((d1 p g1).trans (adv_c _ _)))))
              have key1 : ∀ p, p < len1 → h4 (98 + 7 * x + 4) p = h1 (98 + 7 * x + 4) p := fun p g1 => (c6 p (by omega)).trans ((b1 p (by omega)).trans (adv_c _ _))
              have S : Sg1 law (fun E => if q E = 0 then g E else f E) ((mvPut (adv h8 j3) (98 + 7 * x + 4) len4 (nI (len8 * 64 + 26))) (98 + 7 * x + 4)) len len8 (5 * (8 - o) + 6) := by
                refine Sg1_if (m := len1) (p := len4) (Sg1_cg a7 (fun p _ g2 => (key p (by omega) (by omega) (by omega)).trans (key1 p g2))) (Sg1_mono (Sg1_cg c7 (fun p g1 g2 => key p (by omega) (by omega) (by omega))) (by omega)) (Sg1_mono (Sg1_cg f7 (fun p g1 g2 => (put_nj (by omega)).trans (adv_c _ _))) (by omega)) ?_ put_eq (by omega) (by omega) (by omega) (by omega)
                exact (put_nj (by omega)).trans ((adv_c _ _).trans ((f6 len1 (by omega)).trans put_eq))
              have bB : fB (fun E => if q E = 0 then g E else f E) := fun E hE => by
                show -1000000 ≤ (if q E = 0 then g E else f E) ∧ (if q E = 0 then g E else f E) ≤ 1000000
                split
                · exact f8 E hE
                · exact c8 E hE
              refine ⟨_, ⟨FR_trans F1 (FR_trans (adv_FR _) (FR_trans F3 (FR_trans F4 (FR_trans (adv_FR _) (FR_trans F6 (FR_trans F7 (FR_trans F8 (FR_trans (adv_FR _) F10)))))))), len8, A10, by omega, by omega, by omega, ?_, fun p g => (key p (by omega) (by omega) (by omega)).trans ((key1 p (by omega)).trans (a6 p g)), S, bB, fun z => absurd z (by decide)⟩, ?_⟩
              · refine (put_o (by omega)).trans ((adv_4 _).trans (f5.trans ((put_o (by omega)).trans ?_)))
                rw [adS_72 _ _ (by omega)]
                refine (adv_4 _).trans (c5.trans ?_)
                rw [adS_72 _ _ (by omega)]
                exact (adv_4 _).trans a5
              · show avA _ 72 0 [.ref 72, .int (nI (o)), mvU, mvU] [] _ _
                refine a_aload_0 rfl rfl ?_
                refine a_iload_1 rfl rfl ?_
                refine a_virt0 rfl rfl (C1) (by omega) ⟨rfl, rfl, rfl, rfl⟩ rfl rfl rfl (Nat.le_of_ble_eq_true rfl) rfl rfl ?_
                refine a_aload_0 rfl rfl ?_
                refine a_bipush (v := (nI 25)) rfl rfl rfl ?_
                refine a_virt0 rfl rfl (e_takeT A1 q1 (by decide)) (by omega) ⟨rfl, rfl, rfl, rfl⟩ rfl rfl rfl (Nat.le_of_ble_eq_true rfl) rfl rfl ?_
                refine a_aload_0 rfl rfl ?_
                refine a_getr rfl rfl rfl (fun _ _ _ => rfl) rfl ?_
                refine a_geti rfl rfl (congrArg Prod.fst (tx_t hx)) (fun _ _ _ => rfl) ?_
                refine a_as (y := nI (len1)) A2.2.2.2.2.1 ?_
                refine a_istore_2 rfl rfl rfl ?_
                refine a_aload_0 rfl rfl ?_
                refine a_getr rfl rfl rfl (fun _ _ _ => rfl) rfl ?_
                refine a_bipush (v := (nI 24)) rfl rfl rfl ?_
                refine a_iconst (v := (nI 0)) rfl rfl rfl ?_
                refine a_virt0 rfl rfl (e_addA hx A2 (by omega) (by omega) (by omega)) (by omega) ⟨rfl, rfl, rfl, rfl⟩ rfl rfl rfl (Nat.le_of_ble_eq_true rfl) (congrArg Prod.fst (tx_t hx)) rfl ?_
                refine a_aload_0 rfl rfl ?_
                refine a_iload_1 rfl rfl ?_
                refine a_virt0 rfl rfl (C4) (by omega) ⟨rfl, rfl, rfl, rfl⟩ rfl rfl rfl (Nat.le_of_ble_eq_true rfl) rfl rfl ?_
                refine a_aload_0 rfl rfl ?_
                refine a_bipush (v := (nI 26)) rfl rfl rfl ?_
                refine a_virt0 rfl rfl (e_takeT A4 q2 (by decide)) (by omega) ⟨rfl, rfl, rfl, rfl⟩ rfl rfl rfl (Nat.le_of_ble_eq_true rfl) rfl rfl ?_
                refine a_aload_0 rfl rfl ?_
                refine a_getr rfl rfl rfl (fun _ _ _ => rfl) rfl ?_
                refine a_geti rfl rfl (congrArg Prod.fst (tx_t hx)) (fun _ _ _ => rfl) ?_
                refine a_as (y := nI (len4)) A5.2.2.2.2.1 ?_
                refine a_istore_3 rfl rfl rfl ?_
                refine a_aload_0 rfl rfl ?_
                refine a_getr rfl rfl rfl (fun _ _ _ => rfl) rfl ?_
                refine a_bipush (v := (nI 26)) rfl rfl rfl ?_
                refine a_iconst (v := (nI 0)) rfl rfl rfl ?_
                refine a_virt0 rfl rfl (e_addA hx A5 (by omega) (by omega) (by omega)) (by omega) ⟨rfl, rfl, rfl, rfl⟩ rfl rfl rfl (Nat.le_of_ble_eq_true rfl) (congrArg Prod.fst (tx_t hx)) rfl ?_
                refine a_aload_0 rfl rfl ?_
                refine a_getr rfl rfl rfl (fun _ _ _ => rfl) rfl ?_
                refine a_iload_2 rfl rfl ?_
                refine a_virt0 rfl rfl (Caim) (by omega) ⟨rfl, rfl, rfl, rfl⟩ rfl rfl rfl (Nat.le_of_ble_eq_true rfl) (congrArg Prod.fst (tx_t hx)) rfl ?_
                refine a_aload_0 rfl rfl ?_
                refine a_iload_1 rfl rfl ?_
                refine a_virt0 rfl rfl (C8) (by omega) ⟨rfl, rfl, rfl, rfl⟩ rfl rfl rfl (Nat.le_of_ble_eq_true rfl) rfl rfl ?_
                refine a_aload_0 rfl rfl ?_
                refine a_bipush (v := (nI 27)) rfl rfl rfl ?_
                refine a_virt0 rfl rfl (e_takeT A8 q3 (by decide)) (by omega) ⟨rfl, rfl, rfl, rfl⟩ rfl rfl rfl (Nat.le_of_ble_eq_true rfl) rfl rfl ?_
                refine a_aload_0 rfl rfl ?_
                refine a_getr rfl rfl rfl (fun _ _ _ => rfl) rfl ?_
                refine a_iload_3 rfl rfl ?_
                refine a_virt0 rfl rfl (Caim2) (by omega) ⟨rfl, rfl, rfl, rfl⟩ rfl rfl rfl (Nat.le_of_ble_eq_true rfl) (congrArg Prod.fst (tx_t hx)) rfl ?_
                exact a_vret rfl rfl
            · rw [if_neg q3] at e6
              obtain rfl := Option.some.inj e6
              obtain ⟨D9, g1, g2, g3⟩ := AL_fail (c := 1) A8 (p := tP b k j3) (by decide)
              obtain ⟨h', T, C⟩ := l_ch77 (L := L) (lt := lt) (sw := sw) (gl := gl) hx D9 o len1 len4 (8 * (8 - o) + 10) (by omega)
              refine ⟨h', RsC_dt (FR_trans F1 (FR_trans (adv_FR _) (FR_trans F3 (FR_trans F4 (FR_trans (adv_FR _) (FR_trans F6 (FR_trans F7 (FR_trans F8 g3)))))))) T g1 g2, ?_⟩
              show avA _ 72 0 [.ref 72, .int (nI (o)), mvU, mvU] [] _ _
              refine a_aload_0 rfl rfl ?_
              refine a_iload_1 rfl rfl ?_
              refine a_virt0 rfl rfl (C1) (by omega) ⟨rfl, rfl, rfl, rfl⟩ rfl rfl rfl (Nat.le_of_ble_eq_true rfl) rfl rfl ?_
              refine a_aload_0 rfl rfl ?_
              refine a_bipush (v := (nI 25)) rfl rfl rfl ?_
              refine a_virt0 rfl rfl (e_takeT A1 q1 (by decide)) (by omega) ⟨rfl, rfl, rfl, rfl⟩ rfl rfl rfl (Nat.le_of_ble_eq_true rfl) rfl rfl ?_
              refine a_aload_0 rfl rfl ?_
              refine a_getr rfl rfl rfl (fun _ _ _ => rfl) rfl ?_
              refine a_geti rfl rfl (congrArg Prod.fst (tx_t hx)) (fun _ _ _ => rfl) ?_
              refine a_as (y := nI (len1)) A2.2.2.2.2.1 ?_
              refine a_istore_2 rfl rfl rfl ?_
              refine a_aload_0 rfl rfl ?_
              refine a_getr rfl rfl rfl (fun _ _ _ => rfl) rfl ?_
              refine a_bipush (v := (nI 24)) rfl rfl rfl ?_
              refine a_iconst (v := (nI 0)) rfl rfl rfl ?_
              refine a_virt0 rfl rfl (e_addA hx A2 (by omega) (by omega) (by omega)) (by omega) ⟨rfl, rfl, rfl, rfl⟩ rfl rfl rfl (Nat.le_of_ble_eq_true rfl) (congrArg Prod.fst (tx_t hx)) rfl ?_
              refine a_aload_0 rfl rfl ?_
              refine a_iload_1 rfl rfl ?_
              refine a_virt0 rfl rfl (C4) (by omega) ⟨rfl, rfl, rfl, rfl⟩ rfl rfl rfl (Nat.le_of_ble_eq_true rfl) rfl rfl ?_
              refine a_aload_0 rfl rfl ?_
              refine a_bipush (v := (nI 26)) rfl rfl rfl ?_
              refine a_virt0 rfl rfl (e_takeT A4 q2 (by decide)) (by omega) ⟨rfl, rfl, rfl, rfl⟩ rfl rfl rfl (Nat.le_of_ble_eq_true rfl) rfl rfl ?_
              refine a_aload_0 rfl rfl ?_
              refine a_getr rfl rfl rfl (fun _ _ _ => rfl) rfl ?_
              refine a_geti rfl rfl (congrArg Prod.fst (tx_t hx)) (fun _ _ _ => rfl) ?_
              refine a_as (y := nI (len4)) A5.2.2.2.2.1 ?_
              refine a_istore_3 rfl rfl rfl ?_
              refine a_aload_0 rfl rfl ?_
              refine a_getr rfl rfl rfl (fun _ _ _ => rfl) rfl ?_
              refine a_bipush (v := (nI 26)) rfl rfl rfl ?_
              refine a_iconst (v := (nI 0)) rfl rfl rfl ?_
              refine a_virt0 rfl rfl (e_addA hx A5 (by omega) (by omega) (by omega)) (by omega) ⟨rfl, rfl, rfl, rfl⟩ rfl rfl rfl (Nat.le_of_ble_eq_true rfl) (congrArg Prod.fst (tx_t hx)) rfl ?_
              refine a_aload_0 rfl rfl ?_
              refine a_getr rfl rfl rfl (fun _ _ _ => rfl) rfl ?_
              refine a_iload_2 rfl rfl ?_
              refine a_virt0 rfl rfl (Caim) (by omega) ⟨rfl, rfl, rfl, rfl⟩ rfl rfl rfl (Nat.le_of_ble_eq_true rfl) (congrArg Prod.fst (tx_t hx)) rfl ?_
              refine a_aload_0 rfl rfl ?_
              refine a_iload_1 rfl rfl ?_
              refine a_virt0 rfl rfl (C8) (by omega) ⟨rfl, rfl, rfl, rfl⟩ rfl rfl rfl (Nat.le_of_ble_eq_true rfl) rfl rfl ?_
              refine a_aload_0 rfl rfl ?_
              refine a_bipush (v := (nI 27)) rfl rfl rfl ?_
              refine a_virt0 rfl rfl (e_takeF A8 q3 (by decide)) (by omega) ⟨rfl, rfl, rfl, rfl⟩ rfl rfl rfl (Nat.le_of_ble_eq_true rfl) rfl rfl ?_
              exact C
          · obtain ⟨h8, ⟨F8, D8, f2, f3⟩, C8⟩ := I2 _ o (j2 + 1) (len4 + 1) _ _ e5 ho A7
            obtain ⟨h', T, C⟩ := l_ch71 (L := L) (lt := lt) (sw := sw) (gl := gl) hx D8 o len1 len4 (8 * (8 - o) + 8) (by omega)
            refine ⟨h', RsC_dt (FR_trans F1 (FR_trans (adv_FR _) (FR_trans F3 (FR_trans F4 (FR_trans (adv_FR _) (FR_trans F6 (FR_trans F7 F8))))))) T f2 f3, ?_⟩
            show avA _ 72 0 [.ref 72, .int (nI (o)), mvU, mvU] [] _ _
            refine a_aload_0 rfl rfl ?_
            refine a_iload_1 rfl rfl ?_
            refine a_virt0 rfl rfl (C1) (by omega) ⟨rfl, rfl, rfl, rfl⟩ rfl rfl rfl (Nat.le_of_ble_eq_true rfl) rfl rfl ?_
            refine a_aload_0 rfl rfl ?_
            refine a_bipush (v := (nI 25)) rfl rfl rfl ?_
            refine a_virt0 rfl rfl (e_takeT A1 q1 (by decide)) (by omega) ⟨rfl, rfl, rfl, rfl⟩ rfl rfl rfl (Nat.le_of_ble_eq_true rfl) rfl rfl ?_
            refine a_aload_0 rfl rfl ?_
            refine a_getr rfl rfl rfl (fun _ _ _ => rfl) rfl ?_
            refine a_geti rfl rfl (congrArg Prod.fst (tx_t hx)) (fun _ _ _ => rfl) ?_
            refine a_as (y := nI (len1)) A2.2.2.2.2.1 ?_
            refine a_istore_2 rfl rfl rfl ?_
            refine a_aload_0 rfl rfl ?_
            refine a_getr rfl rfl rfl (fun _ _ _ => rfl) rfl ?_
            refine a_bipush (v := (nI 24)) rfl rfl rfl ?_
            refine a_iconst (v := (nI 0)) rfl rfl rfl ?_
            refine a_virt0 rfl rfl (e_addA hx A2 (by omega) (by omega) (by omega)) (by omega) ⟨rfl, rfl, rfl, rfl⟩ rfl rfl rfl (Nat.le_of_ble_eq_true rfl) (congrArg Prod.fst (tx_t hx)) rfl ?_
            refine a_aload_0 rfl rfl ?_
            refine a_iload_1 rfl rfl ?_
            refine a_virt0 rfl rfl (C4) (by omega) ⟨rfl, rfl, rfl, rfl⟩ rfl rfl rfl (Nat.le_of_ble_eq_true rfl) rfl rfl ?_
            refine a_aload_0 rfl rfl ?_
            refine a_bipush (v := (nI 26)) rfl rfl rfl ?_
            refine a_virt0 rfl rfl (e_takeT A4 q2 (by decide)) (by omega) ⟨rfl, rfl, rfl, rfl⟩ rfl rfl rfl (Nat.le_of_ble_eq_true rfl) rfl rfl ?_
            refine a_aload_0 rfl rfl ?_
            refine a_getr rfl rfl rfl (fun _ _ _ => rfl) rfl ?_
            refine a_geti rfl rfl (congrArg Prod.fst (tx_t hx)) (fun _ _ _ => rfl) ?_
            refine a_as (y := nI (len4)) A5.2.2.2.2.1 ?_
            refine a_istore_3 rfl rfl rfl ?_
            refine a_aload_0 rfl rfl ?_
            refine a_getr rfl rfl rfl (fun _ _ _ => rfl) rfl ?_
            refine a_bipush (v := (nI 26)) rfl rfl rfl ?_
            refine a_iconst (v := (nI 0)) rfl rfl rfl ?_
            refine a_virt0 rfl rfl (e_addA hx A5 (by omega) (by omega) (by omega)) (by omega) ⟨rfl, rfl, rfl, rfl⟩ rfl rfl rfl (Nat.le_of_ble_eq_true rfl) (congrArg Prod.fst (tx_t hx)) rfl ?_
            refine a_aload_0 rfl rfl ?_
            refine a_getr rfl rfl rfl (fun _ _ _ => rfl) rfl ?_
            refine a_iload_2 rfl rfl ?_
            refine a_virt0 rfl rfl (Caim) (by omega) ⟨rfl, rfl, rfl, rfl⟩ rfl rfl rfl (Nat.le_of_ble_eq_true rfl) (congrArg Prod.fst (tx_t hx)) rfl ?_
            refine a_aload_0 rfl rfl ?_
            refine a_iload_1 rfl rfl ?_
            refine a_virt0 rfl rfl (C8) (by omega) ⟨rfl, rfl, rfl, rfl⟩ rfl rfl rfl (Nat.le_of_ble_eq_true rfl) rfl rfl ?_
            exact C
        · rw [if_neg q2] at e4
          obtain rfl := Option.some.inj e4
          obtain ⟨D9, g1, g2, g3⟩ := AL_fail (c := 1) A4 (p := tP b k j2) (by decide)
          have l8 := A4.1.2.2.1
          obtain ⟨h', T, C⟩ := l_ch40 (L := L) (lt := lt) (sw := sw) (gl := gl) hx D9 o len1 (8 * (8 - o) + 5) mvU (by omega)
          refine ⟨h', RsC_dt (FR_trans F1 (FR_trans (adv_FR _) (FR_trans F3 (FR_trans F4 g3)))) T g1 g2, ?_⟩
          show avA _ 72 0 [.ref 72, .int (nI (o)), mvU, mvU] [] _ _
          refine a_aload_0 rfl rfl ?_
          refine a_iload_1 rfl rfl ?_
          refine a_virt0 rfl rfl (C1) (by omega) ⟨rfl, rfl, rfl, rfl⟩ rfl rfl rfl (Nat.le_of_ble_eq_true rfl) rfl rfl ?_
          refine a_aload_0 rfl rfl ?_
          refine a_bipush (v := (nI 25)) rfl rfl rfl ?_
          refine a_virt0 rfl rfl (e_takeT A1 q1 (by decide)) (by omega) ⟨rfl, rfl, rfl, rfl⟩ rfl rfl rfl (Nat.le_of_ble_eq_true rfl) rfl rfl ?_
          refine a_aload_0 rfl rfl ?_
          refine a_getr rfl rfl rfl (fun _ _ _ => rfl) rfl ?_
          refine a_geti rfl rfl (congrArg Prod.fst (tx_t hx)) (fun _ _ _ => rfl) ?_
          refine a_as (y := nI (len1)) A2.2.2.2.2.1 ?_
          refine a_istore_2 rfl rfl rfl ?_
          refine a_aload_0 rfl rfl ?_
          refine a_getr rfl rfl rfl (fun _ _ _ => rfl) rfl ?_
          refine a_bipush (v := (nI 24)) rfl rfl rfl ?_
          refine a_iconst (v := (nI 0)) rfl rfl rfl ?_
          refine a_virt0 rfl rfl (e_addA hx A2 (by omega) (by omega) (by omega)) (by omega) ⟨rfl, rfl, rfl, rfl⟩ rfl rfl rfl (Nat.le_of_ble_eq_true rfl) (congrArg Prod.fst (tx_t hx)) rfl ?_
          refine a_aload_0 rfl rfl ?_
          refine a_iload_1 rfl rfl ?_
          refine a_virt0 rfl rfl (C4) (by omega) ⟨rfl, rfl, rfl, rfl⟩ rfl rfl rfl (Nat.le_of_ble_eq_true rfl) rfl rfl ?_
          refine a_aload_0 rfl rfl ?_
          refine a_bipush (v := (nI 26)) rfl rfl rfl ?_
          refine a_virt0 rfl rfl (e_takeF A4 q2 (by decide)) (by omega) ⟨rfl, rfl, rfl, rfl⟩ rfl rfl rfl (Nat.le_of_ble_eq_true rfl) rfl rfl ?_
          exact C
      · obtain ⟨h4, ⟨F4, D4, c2, c3⟩, C4⟩ := I2 _ o (j + 1) (len1 + 1) _ _ e3 ho A3
        have l8 := A3.1.2.2.1
        obtain ⟨h', T, C⟩ := l_ch34 (L := L) (lt := lt) (sw := sw) (gl := gl) hx D4 o len1 (8 * (8 - o) + 5) mvU (by omega)
        refine ⟨h', RsC_dt (FR_trans F1 (FR_trans (adv_FR _) (FR_trans F3 F4))) T c2 c3, ?_⟩
        show avA _ 72 0 [.ref 72, .int (nI (o)), mvU, mvU] [] _ _
        refine a_aload_0 rfl rfl ?_
        refine a_iload_1 rfl rfl ?_
        refine a_virt0 rfl rfl (C1) (by omega) ⟨rfl, rfl, rfl, rfl⟩ rfl rfl rfl (Nat.le_of_ble_eq_true rfl) rfl rfl ?_
        refine a_aload_0 rfl rfl ?_
        refine a_bipush (v := (nI 25)) rfl rfl rfl ?_
        refine a_virt0 rfl rfl (e_takeT A1 q1 (by decide)) (by omega) ⟨rfl, rfl, rfl, rfl⟩ rfl rfl rfl (Nat.le_of_ble_eq_true rfl) rfl rfl ?_
        refine a_aload_0 rfl rfl ?_
        refine a_getr rfl rfl rfl (fun _ _ _ => rfl) rfl ?_
        refine a_geti rfl rfl (congrArg Prod.fst (tx_t hx)) (fun _ _ _ => rfl) ?_
        refine a_as (y := nI (len1)) A2.2.2.2.2.1 ?_
        refine a_istore_2 rfl rfl rfl ?_
        refine a_aload_0 rfl rfl ?_
        refine a_getr rfl rfl rfl (fun _ _ _ => rfl) rfl ?_
        refine a_bipush (v := (nI 24)) rfl rfl rfl ?_
        refine a_iconst (v := (nI 0)) rfl rfl rfl ?_
        refine a_virt0 rfl rfl (e_addA hx A2 (by omega) (by omega) (by omega)) (by omega) ⟨rfl, rfl, rfl, rfl⟩ rfl rfl rfl (Nat.le_of_ble_eq_true rfl) (congrArg Prod.fst (tx_t hx)) rfl ?_
        refine a_aload_0 rfl rfl ?_
        refine a_iload_1 rfl rfl ?_
        refine a_virt0 rfl rfl (C4) (by omega) ⟨rfl, rfl, rfl, rfl⟩ rfl rfl rfl (Nat.le_of_ble_eq_true rfl) rfl rfl ?_
        exact C
    · rw [if_neg q1] at e2
      obtain rfl := Option.some.inj e2
      obtain ⟨D9, g1, g2, g3⟩ := AL_fail (c := 1) A1 (p := tP b k j) (by decide)
      obtain ⟨h', T, C⟩ := l_ch11 (L := L) (lt := lt) (sw := sw) (gl := gl) hx D9 o (8 * (8 - o) + 5) mvU mvU
      refine ⟨h', RsC_dt (FR_trans F1 g3) T g1 g2, ?_⟩
      show avA _ 72 0 [.ref 72, .int (nI (o)), mvU, mvU] [] _ _
      refine a_aload_0 rfl rfl ?_
      refine a_iload_1 rfl rfl ?_
      refine a_virt0 rfl rfl (C1) (by omega) ⟨rfl, rfl, rfl, rfl⟩ rfl rfl rfl (Nat.le_of_ble_eq_true rfl) rfl rfl ?_
      refine a_aload_0 rfl rfl ?_
      refine a_bipush (v := (nI 25)) rfl rfl rfl ?_
      refine a_virt0 rfl rfl (e_takeF A1 q1 (by decide)) (by omega) ⟨rfl, rfl, rfl, rfl⟩ rfl rfl rfl (Nat.le_of_ble_eq_true rfl) rfl rfl ?_
      exact C
  · obtain ⟨h1, ⟨F1, D1, a3, a4⟩, C1⟩ := I1 _ o i len _ _ e1 ho H
    obtain ⟨h', T, C⟩ := l_ch5 (L := L) (lt := lt) (sw := sw) (gl := gl) hx D1 o (8 * (8 - o) + 5) mvU mvU
    refine ⟨h', RsC_dt F1 T a3 a4, ?_⟩
    show avA _ 72 0 [.ref 72, .int (nI (o)), mvU, mvU] [] _ _
    refine a_aload_0 rfl rfl ?_
    refine a_iload_1 rfl rfl ?_
    refine a_virt0 rfl rfl (C1) (by omega) ⟨rfl, rfl, rfl, rfl⟩ rfl rfl rfl (Nat.le_of_ble_eq_true rfl) rfl rfl ?_
    exact C
end RO
