/-! THE LEASE: the two calls -/
def opL (d k : Nat) (as : List Value) (TX : Nat → Txt) (A B : Nat → Int32) (v : Int32) : Prop := ∀ (L t : Nat) (lt rt rp : Option Nat) (sw : Bool) (h : Nat → Nat → Int32) (gl : Nat → Nat → Int64) (R : Nat), CI A B TX R t lt h → LZ h → ∃ h', avE d k as (sX L t lt rt rp sw h gl) (some (.int v), sX L t lt rt rp sw h' gl) ∧ CF [78, 79] h h' ∧ CI A B TX R t lt h' ∧ LZ h'
section LP
variable {A B : Nat → Int32} {TX : Nat → Txt}
theorem gA_I (A : Nat → Int32) (m : Nat) : A (138 + m) = iI (gA A m) := iI_of _
theorem R_lease (hA : okA A) {k gap : Nat} (hk : k ≤ 12) (hgap : gap ≤ 11) {x r : Int32} (hx : -1 ≤ x.toInt ∧ x.toInt ≤ 11) (E : ∀ (L t : Nat) (lt rt rp : Option Nat) (sw : Bool) (h : Nat → Nat → Int32) (gl : Nat → Nat → Int64), (∀ m, m < 12 → h 82 (138 + m) = iI (gA A m)) → ∀ y, avA 2 314 132 [.ref 81, .int (nI k), .int (nI gap), .int x, .int (nI (nB (gA A) gap k)), .int (nI 4096), y] [] (sX L t lt rt rp sw h gl) (some (.int r), sX L t lt rt rp sw h gl)) : opR 2 314 [.ref 81, .int (nI k), .int (nI gap), .int x] TX A B r A B := by
  intro L t lt rt rp sw h gl ok H
  have G : ∀ m, m < 12 → h 82 (138 + m) = iI (gA A m) := fun m _ => by rw [H.1]; exact gA_I A m
  refine ⟨h, gl, ?_, CF_refl, fun _ _ => rfl, H⟩
  have z0 : ∀ j, j ≤ 12 → lA gap (tB 0) j (12 - j) = true ∧ lC (tB 0) j = 0 := fun j hj => by
    obtain ⟨a, b, c⟩ := l_skip (g := gA A) (gap := gap) (s := tB 0) (j' := 0) j j (by omega) hj (fun i _ _ => Nat.zero_testBit i)
    exact ⟨(c _).trans rfl, b⟩
  have Z := l_lease (L := L) (t := t) (lt := lt) (rt := rt) (rp := rp) (sw := sw) (gl := gl) (gA_b ok) G hgap hk x (E L t lt rt rp sw h gl G) 4095 1 0 mvU rfl (by omega) (by omega) ⟨(z0 12 (by omega)).1, by rw [(z0 12 (by omega)).2]; omega⟩ (fun q => by omega)
  show avA _ 314 0 [.ref 81, .int (nI (k)), .int (nI (gap)), .int (x), mvU, mvU, mvU] [] _ _
  refine a_iload_1 rfl rfl ?_
  refine a_iconst (v := (nI 0)) rfl rfl rfl ?_
  refine a_bipush (v := (nI 12)) rfl rfl rfl ?_
  refine a_statI rfl rfl (r_isIn0 (nI k) 0 12 (by omega) (by omega)) (Nat.le_of_ble_eq_true rfl) ⟨rfl, rfl, rfl⟩ rfl rfl rfl (Nat.le_of_ble_eq_true rfl) rfl ?_
  refine a_ifb_eq rfl rfl rfl (fun c_7 => by first | exact absurd c_7 (not_not_intro (by rw [nI_toInt (by omega)]; omega)) | exact absurd (not_not_intro (by rw [nI_toInt (by omega)]; omega)) c_7) (fun _ => ?_)
  refine a_iload_2 rfl rfl ?_
  refine a_iconst (v := (nI 0)) rfl rfl rfl ?_
  refine a_bipush (v := (nI 11)) rfl rfl rfl ?_
  refine a_statI rfl rfl (r_isIn0 (nI gap) 0 11 (by omega) (by omega)) (Nat.le_of_ble_eq_true rfl) ⟨rfl, rfl, rfl⟩ rfl rfl rfl (Nat.le_of_ble_eq_true rfl) rfl ?_
  refine a_ifb_eq rfl rfl rfl (fun c_17 => by first | exact absurd c_17 (not_not_intro (by rw [nI_toInt (by omega)]; omega)) | exact absurd (not_not_intro (by rw [nI_toInt (by omega)]; omega)) c_17) (fun _ => ?_)
  refine a_iload_3 rfl rfl ?_
  refine a_iconst (v := (-1)) rfl rfl rfl ?_
  refine a_bipush (v := (nI 11)) rfl rfl rfl ?_
  refine a_statI rfl rfl (r_isIn x (-1) 11) (Nat.le_of_ble_eq_true rfl) ⟨rfl, rfl, rfl⟩ rfl rfl rfl (Nat.le_of_ble_eq_true rfl) rfl ?_
  refine a_ifb_ne rfl rfl rfl (fun _ => ?_) (fun c_27 => by first | exact absurd hx c_27 | exact absurd c_27 hx)
  refine a_iconst (v := (nI 0)) rfl rfl rfl ?_
  refine a_istore_4 rfl rfl rfl ?_
  refine a_iconst (v := (nI 1)) rfl rfl rfl ?_
  refine a_istore_5 rfl rfl rfl ?_
  exact Z
theorem p_lease (hA : okA A) (v1 v2 x : Int32) : ∃ r, opL 3 164 [.ref 7, .int v1, .int v2, .int x] TX A B r ∧ opR 2 314 [.ref 81, .int v1, .int v2, .int x] TX A B r A B := by
  by_cases h1 : 0 ≤ v1.toInt ∧ v1.toInt ≤ 12
  · by_cases h2 : 0 ≤ v2.toInt ∧ v2.toInt ≤ 11
    · by_cases h3 : -1 ≤ x.toInt ∧ x.toInt ≤ 11
      · obtain ⟨k, hk, rfl, _⟩ := cell_of (x := v1) (m := 13) h1.1 (by omega)
        obtain ⟨gap, hgap, rfl, _⟩ := cell_of (x := v2) (m := 12) h2.1 (by omega)
        have CC : ∀ (L t : Nat) (lt rt rp : Option Nat) (sw : Bool) (h : Nat → Nat → Int32) (gl : Nat → Nat → Int64) (R : Nat), CI A B TX R t lt h → LZ h → ∃ h', avE 2 165 [.ref 78, .ref 32, .int (nI k), .int (nI gap)] (sX L t lt rt rp sw h gl) (none, sX L t lt rt rp sw h' gl) ∧ CF [78, 79] h h' ∧ CI A B TX R t lt h' ∧ LZ h' ∧ h' 78 2 = bsI 12 (lB (gA A) gap 12 k) ∧ h' 78 1 = iI (lG (gA A) (lB (gA A) gap 12 k) 12) := by
          intro L t lt rt rp sw h gl R H Z
          have gr : gainR 11 A h := H.2.2.2.1.2.2.2.2.2.1
          obtain ⟨h', C, c, z, q1, q2⟩ := e_plan (L := L) (t := t) (lt := lt) (rt := rt) (rp := rp) (sw := sw) (gl := gl) (g := gA A) (gA_b H.1) (gap := gap) (k := k) (by omega) (by omega) (fun i hi => by have := gr i hi; rw [show (11 : Nat) + 21 = 32 from rfl] at this; rw [this]; exact gA_I A i) Z
          exact ⟨h', C, c, CI_cf H rfl rfl rfl rfl c, z, q1, q2⟩
        by_cases hx : x = -1
        · refine ⟨iI (lG (gA A) (lB (gA A) gap 12 k) 12), ?_, R_lease hA (by omega) (by omega) h3 ?_⟩
          · intro L t lt rt rp sw h gl R H Z
            obtain ⟨h', C, c, H', Z', q1, q2⟩ := CC L t lt rt rp sw h gl R H Z
            refine ⟨h', ?_, c, H', Z'⟩
            show avA _ 164 0 [.ref 7, .int (nI (k)), .int (nI (gap)), .int (x)] [] _ _
            refine a_iload_1 rfl rfl ?_
            refine a_bipush (v := (nI 12)) rfl rfl rfl ?_
            refine a_statI rfl rfl (e_isWithin (nI k) 12 (by omega)) (Nat.le_of_ble_eq_true rfl) ⟨rfl, rfl, rfl⟩ rfl rfl rfl (Nat.le_of_ble_eq_true rfl) rfl ?_
            refine a_ifb_eq rfl rfl rfl (fun c_6 => by first | exact absurd c_6 (not_not_intro h1) | exact absurd (not_not_intro h1) c_6) (fun _ => ?_)
            refine a_iload_2 rfl rfl ?_
            refine a_bipush (v := (nI 11)) rfl rfl rfl ?_
            refine a_statI rfl rfl (e_isWithin (nI gap) 11 (by omega)) (Nat.le_of_ble_eq_true rfl) ⟨rfl, rfl, rfl⟩ rfl rfl rfl (Nat.le_of_ble_eq_true rfl) rfl ?_
            refine a_ifb_eq rfl rfl rfl (fun c_15 => by first | exact absurd c_15 (not_not_intro h2) | exact absurd (not_not_intro h2) c_15) (fun _ => ?_)
            refine a_iload_3 rfl rfl ?_
            refine a_iconst (v := (-1)) rfl rfl rfl ?_
            refine a_cmpI_lt rfl rfl rfl rfl (show (-1 : Int32).toInt = -1 from by decide) (fun c_20 => False.elim (by omega)) (fun _ => ?_)
            refine a_iload_3 rfl rfl ?_
            refine a_bipush (v := (nI 12)) rfl rfl rfl ?_
            refine a_cmpI_lt rfl rfl rfl rfl (nI_toInt (by omega)) (fun _ => ?_) (fun c_26 => False.elim (by omega))
            refine a_aload_0 rfl rfl ?_
            refine a_getr rfl rfl rfl (fun _ _ _ => rfl) rfl ?_
            refine a_aload_0 rfl rfl ?_
            refine a_getr rfl rfl rfl (fun _ _ _ => rfl) rfl ?_
            refine a_getr rfl rfl rfl (fun _ _ _ => rfl) rfl ?_
            refine a_iload_1 rfl rfl ?_
            refine a_iload_2 rfl rfl ?_
            refine a_virt0 rfl rfl (C) (Nat.le_of_ble_eq_true rfl) ⟨rfl, rfl, rfl, rfl⟩ rfl rfl rfl (Nat.le_of_ble_eq_true rfl) rfl rfl ?_
            refine a_iload_3 rfl rfl ?_
            refine a_iconst (v := (-1)) rfl rfl rfl ?_
            refine a_cmp_ne rfl rfl rfl (fun c_51 => by first | exact absurd c_51 hx | exact absurd hx c_51) (fun _ => ?_)
            refine a_aload_0 rfl rfl ?_
            refine a_getr rfl rfl rfl (fun _ _ _ => rfl) rfl ?_
            refine a_geti rfl rfl rfl (fun _ _ _ => rfl) ?_
            refine a_as (y := _) q2 ?_
            exact a_iret rfl rfl
          · intro L t lt rt rp sw h gl G y
            have Gv := r_gainOf (L := L) (t := t) (lt := lt) (rt := rt) (rp := rp) (sw := sw) (gl := gl) G (nB (gA A) gap k)
            rw [nB_f] at Gv
            refine a_iload_3 rfl rfl ?_
            refine a_iconst (v := (-1)) rfl rfl rfl ?_
            refine a_cmp_ne rfl rfl rfl (fun c_134 => by first | exact absurd c_134 hx | exact absurd hx c_134) (fun _ => ?_)
            refine a_aload_0 rfl rfl ?_
            refine a_iload_4 rfl rfl ?_
            refine a_virtI rfl rfl (Gv) (Nat.le_of_ble_eq_true rfl) ⟨rfl, rfl, rfl, rfl⟩ rfl rfl rfl (Nat.le_of_ble_eq_true rfl) rfl rfl ?_
            refine a_goto rfl rfl ?_
            exact a_iret rfl rfl
        · have x0 : 0 ≤ x.toInt := by
            have : x.toInt ≠ -1 := fun e => hx (Int32.toInt_inj.mp (by rw [e]; decide))
            omega
          obtain ⟨n, hn, rfl, _⟩ := cell_of (x := x) (m := 12) x0 (by omega)
          have tC : tb (bsI 12 (lB (gA A) gap 12 k)) n = lB (gA A) gap 12 k n := by rw [tb_bs (by omega)]; simp [hn]
          have tR : tb (nI (nB (gA A) gap k)) n = lB (gA A) gap 12 k n := by rw [t_has _ _ (by omega), nB_t]
          cases q : lB (gA A) gap 12 k n with
          | true =>
            refine ⟨nI 1, ?_, R_lease hA (by omega) (by omega) h3 ?_⟩
            · intro L t lt rt rp sw h gl R H Z
              obtain ⟨h', C, c, H', Z', q1, q2⟩ := CC L t lt rt rp sw h gl R H Z
              refine ⟨h', ?_, c, H', Z'⟩
              show avA _ 164 0 [.ref 7, .int (nI (k)), .int (nI (gap)), .int (nI (n))] [] _ _
              refine a_iload_1 rfl rfl ?_
              refine a_bipush (v := (nI 12)) rfl rfl rfl ?_
              refine a_statI rfl rfl (e_isWithin (nI k) 12 (by omega)) (Nat.le_of_ble_eq_true rfl) ⟨rfl, rfl, rfl⟩ rfl rfl rfl (Nat.le_of_ble_eq_true rfl) rfl ?_
              refine a_ifb_eq rfl rfl rfl (fun c_6 => by first | exact absurd c_6 (not_not_intro h1) | exact absurd (not_not_intro h1) c_6) (fun _ => ?_)
              refine a_iload_2 rfl rfl ?_
              refine a_bipush (v := (nI 11)) rfl rfl rfl ?_
              refine a_statI rfl rfl (e_isWithin (nI gap) 11 (by omega)) (Nat.le_of_ble_eq_true rfl) ⟨rfl, rfl, rfl⟩ rfl rfl rfl (Nat.le_of_ble_eq_true rfl) rfl ?_
              refine a_ifb_eq rfl rfl rfl (fun c_15 => by first | exact absurd c_15 (not_not_intro h2) | exact absurd (not_not_intro h2) c_15) (fun _ => ?_)
              refine a_iload_3 rfl rfl ?_
              refine a_iconst (v := (-1)) rfl rfl rfl ?_
              refine a_cmpI_lt rfl rfl rfl (nI_toInt (by omega)) (show (-1 : Int32).toInt = -1 from by decide) (fun c_20 => False.elim (by omega)) (fun _ => ?_)
              refine a_iload_3 rfl rfl ?_
              refine a_bipush (v := (nI 12)) rfl rfl rfl ?_
              refine a_cmpN_lt rfl rfl rfl (by omega) (by omega) (fun _ => ?_) (fun c_26 => False.elim (by omega))
              refine a_aload_0 rfl rfl ?_
              refine a_getr rfl rfl rfl (fun _ _ _ => rfl) rfl ?_
              refine a_aload_0 rfl rfl ?_
              refine a_getr rfl rfl rfl (fun _ _ _ => rfl) rfl ?_
              refine a_getr rfl rfl rfl (fun _ _ _ => rfl) rfl ?_
              refine a_iload_1 rfl rfl ?_
              refine a_iload_2 rfl rfl ?_
              refine a_virt0 rfl rfl (C) (Nat.le_of_ble_eq_true rfl) ⟨rfl, rfl, rfl, rfl⟩ rfl rfl rfl (Nat.le_of_ble_eq_true rfl) rfl rfl ?_
              refine a_iload_3 rfl rfl ?_
              refine a_iconst (v := (-1)) rfl rfl rfl ?_
              refine a_cmp_ne rfl rfl rfl (fun _ => ?_) (fun c_51 => by first | exact absurd hx c_51 | exact absurd c_51 hx)
              refine a_aload_0 rfl rfl ?_
              refine a_getr rfl rfl rfl (fun _ _ _ => rfl) rfl ?_
              refine a_geti rfl rfl rfl (fun _ _ _ => rfl) ?_
              refine a_as (y := bsI 12 (lB (gA A) gap 12 k)) q1 ?_
              refine a_iload_3 rfl rfl ?_
              refine a_statI rfl rfl (e_has _ _ (by omega)) (Nat.le_of_ble_eq_true rfl) ⟨rfl, rfl, rfl⟩ rfl rfl rfl (Nat.le_of_ble_eq_true rfl) rfl ?_
              refine a_ifb_eq rfl rfl rfl (fun c_73 => by first | exact absurd c_73 (not_not_intro (tC.trans q)) | exact absurd (not_not_intro (tC.trans q)) c_73) (fun _ => ?_)
              refine a_iconst (v := (nI 1)) rfl rfl rfl ?_
              refine a_goto rfl rfl ?_
              exact a_iret rfl rfl
            · intro L t lt rt rp sw h gl G y
              refine a_iload_3 rfl rfl ?_
              refine a_iconst (v := (-1)) rfl rfl rfl ?_
              refine a_cmp_ne rfl rfl rfl (fun _ => ?_) (fun c_134 => by first | exact absurd hx c_134 | exact absurd c_134 hx)
              refine a_iload_4 rfl rfl ?_
              refine a_iload_3 rfl rfl ?_
              refine a_statI rfl rfl (r_has _ _ (by omega)) (Nat.le_of_ble_eq_true rfl) ⟨rfl, rfl, rfl⟩ rfl rfl rfl (Nat.le_of_ble_eq_true rfl) rfl ?_
              refine a_ifb_eq rfl rfl rfl (fun c_152 => by first | exact absurd c_152 (not_not_intro (tR.trans q)) | exact absurd (not_not_intro (tR.trans q)) c_152) (fun _ => ?_)
              refine a_iconst (v := (nI 1)) rfl rfl rfl ?_
              refine a_goto rfl rfl ?_
              exact a_iret rfl rfl
          | false =>
            refine ⟨nI 0, ?_, R_lease hA (by omega) (by omega) h3 ?_⟩
            · intro L t lt rt rp sw h gl R H Z
              obtain ⟨h', C, c, H', Z', q1, q2⟩ := CC L t lt rt rp sw h gl R H Z
              refine ⟨h', ?_, c, H', Z'⟩
              show avA _ 164 0 [.ref 7, .int (nI (k)), .int (nI (gap)), .int (nI (n))] [] _ _
              refine a_iload_1 rfl rfl ?_
              refine a_bipush (v := (nI 12)) rfl rfl rfl ?_
              refine a_statI rfl rfl (e_isWithin (nI k) 12 (by omega)) (Nat.le_of_ble_eq_true rfl) ⟨rfl, rfl, rfl⟩ rfl rfl rfl (Nat.le_of_ble_eq_true rfl) rfl ?_
              refine a_ifb_eq rfl rfl rfl (fun c_6 => by first | exact absurd c_6 (not_not_intro h1) | exact absurd (not_not_intro h1) c_6) (fun _ => ?_)
              refine a_iload_2 rfl rfl ?_
              refine a_bipush (v := (nI 11)) rfl rfl rfl ?_
              refine a_statI rfl rfl (e_isWithin (nI gap) 11 (by omega)) (Nat.le_of_ble_eq_true rfl) ⟨rfl, rfl, rfl⟩ rfl rfl rfl (Nat.le_of_ble_eq_true rfl) rfl ?_
              refine a_ifb_eq rfl rfl rfl (fun c_15 => by first | exact absurd c_15 (not_not_intro h2) | exact absurd (not_not_intro h2) c_15) (fun _ => ?_)
              refine a_iload_3 rfl rfl ?_
              refine a_iconst (v := (-1)) rfl rfl rfl ?_
              refine a_cmpI_lt rfl rfl rfl (nI_toInt (by omega)) (show (-1 : Int32).toInt = -1 from by decide) (fun c_20 => False.elim (by omega)) (fun _ => ?_)
              refine a_iload_3 rfl rfl ?_
              refine a_bipush (v := (nI 12)) rfl rfl rfl ?_
              refine a_cmpN_lt rfl rfl rfl (by omega) (by omega) (fun _ => ?_) (fun c_26 => False.elim (by omega))
              refine a_aload_0 rfl rfl ?_
              refine a_getr rfl rfl rfl (fun _ _ _ => rfl) rfl ?_
              refine a_aload_0 rfl rfl ?_
              refine a_getr rfl rfl rfl (fun _ _ _ => rfl) rfl ?_
              refine a_getr rfl rfl rfl (fun _ _ _ => rfl) rfl ?_
              refine a_iload_1 rfl rfl ?_
              refine a_iload_2 rfl rfl ?_
              refine a_virt0 rfl rfl (C) (Nat.le_of_ble_eq_true rfl) ⟨rfl, rfl, rfl, rfl⟩ rfl rfl rfl (Nat.le_of_ble_eq_true rfl) rfl rfl ?_
              refine a_iload_3 rfl rfl ?_
              refine a_iconst (v := (-1)) rfl rfl rfl ?_
              refine a_cmp_ne rfl rfl rfl (fun _ => ?_) (fun c_51 => by first | exact absurd hx c_51 | exact absurd c_51 hx)
              refine a_aload_0 rfl rfl ?_
              refine a_getr rfl rfl rfl (fun _ _ _ => rfl) rfl ?_
              refine a_geti rfl rfl rfl (fun _ _ _ => rfl) ?_
              refine a_as (y := bsI 12 (lB (gA A) gap 12 k)) q1 ?_
              refine a_iload_3 rfl rfl ?_
              refine a_statI rfl rfl (e_has _ _ (by omega)) (Nat.le_of_ble_eq_true rfl) ⟨rfl, rfl, rfl⟩ rfl rfl rfl (Nat.le_of_ble_eq_true rfl) rfl ?_
              refine a_ifb_eq rfl rfl rfl (fun _ => ?_) (fun c_73 => by first | exact absurd (fun z => by rw [tC, q] at z; exact absurd z (by simp)) c_73 | exact absurd c_73 (fun z => by rw [tC, q] at z; exact absurd z (by simp)))
              refine a_iconst (v := (nI 0)) rfl rfl rfl ?_
              exact a_iret rfl rfl
            · intro L t lt rt rp sw h gl G y
              refine a_iload_3 rfl rfl ?_
              refine a_iconst (v := (-1)) rfl rfl rfl ?_
              refine a_cmp_ne rfl rfl rfl (fun _ => ?_) (fun c_134 => by first | exact absurd hx c_134 | exact absurd c_134 hx)
              refine a_iload_4 rfl rfl ?_
              refine a_iload_3 rfl rfl ?_
              refine a_statI rfl rfl (r_has _ _ (by omega)) (Nat.le_of_ble_eq_true rfl) ⟨rfl, rfl, rfl⟩ rfl rfl rfl (Nat.le_of_ble_eq_true rfl) rfl ?_
              refine a_ifb_eq rfl rfl rfl (fun _ => ?_) (fun c_152 => by first | exact absurd (fun z => by rw [tR, q] at z; exact absurd z (by simp)) c_152 | exact absurd c_152 (fun z => by rw [tR, q] at z; exact absurd z (by simp)))
              refine a_iconst (v := (nI 0)) rfl rfl rfl ?_
              exact a_iret rfl rfl
      · refine ⟨-10000, ?_, ?_⟩
        · intro L t lt rt rp sw h gl R H Z
          refine ⟨h, ?_, CF_refl, H, Z⟩
          show avA _ 164 0 [.ref 7, .int (v1), .int (v2), .int (x)] [] _ _
          refine a_iload_1 rfl rfl ?_
          refine a_bipush (v := (nI 12)) rfl rfl rfl ?_
          refine a_statI rfl rfl (e_isWithin v1 12 (by omega)) (Nat.le_of_ble_eq_true rfl) ⟨rfl, rfl, rfl⟩ rfl rfl rfl (Nat.le_of_ble_eq_true rfl) rfl ?_
          refine a_ifb_eq rfl rfl rfl (fun c_6 => ?_) (fun c_6 => ?_)
          · refine a_sipush (v := (-10000)) rfl rfl rfl ?_
            exact a_iret rfl rfl
          · refine a_iload_2 rfl rfl ?_
            refine a_bipush (v := (nI 11)) rfl rfl rfl ?_
            refine a_statI rfl rfl (e_isWithin v2 11 (by omega)) (Nat.le_of_ble_eq_true rfl) ⟨rfl, rfl, rfl⟩ rfl rfl rfl (Nat.le_of_ble_eq_true rfl) rfl ?_
            refine a_ifb_eq rfl rfl rfl (fun c_15 => ?_) (fun c_15 => ?_)
            · refine a_sipush (v := (-10000)) rfl rfl rfl ?_
              exact a_iret rfl rfl
            · refine a_iload_3 rfl rfl ?_
              refine a_iconst (v := (-1)) rfl rfl rfl ?_
              refine a_cmpI_lt rfl rfl rfl rfl (show (-1 : Int32).toInt = -1 from by decide) (fun c_20 => ?_) (fun c_20 => ?_)
              · refine a_sipush (v := (-10000)) rfl rfl rfl ?_
                exact a_iret rfl rfl
              · refine a_iload_3 rfl rfl ?_
                refine a_bipush (v := (nI 12)) rfl rfl rfl ?_
                refine a_cmpI_lt rfl rfl rfl rfl (nI_toInt (by omega)) (fun c_26 => ?_) (fun c_26 => ?_)
                · exfalso; omega
                · refine a_sipush (v := (-10000)) rfl rfl rfl ?_
                  exact a_iret rfl rfl
        · intro L t lt rt rp sw h gl ok H
          refine ⟨h, gl, ?_, CF_refl, fun _ _ => rfl, H⟩
          have m1 : (-1 : Int32).toInt = -1 := by decide
          have m2 : (11 : Int32).toInt = 11 := by decide
          show avA _ 314 0 [.ref 81, .int (v1), .int (v2), .int (x), mvU, mvU, mvU] [] _ _
          refine a_iload_1 rfl rfl ?_
          refine a_iconst (v := (nI 0)) rfl rfl rfl ?_
          refine a_bipush (v := (nI 12)) rfl rfl rfl ?_
          refine a_statI rfl rfl (r_isIn0 v1 0 12 (by omega) (by omega)) (Nat.le_of_ble_eq_true rfl) ⟨rfl, rfl, rfl⟩ rfl rfl rfl (Nat.le_of_ble_eq_true rfl) rfl ?_
          refine a_ifb_eq rfl rfl rfl (fun c_7 => ?_) (fun c_7 => ?_)
          · refine a_sipush (v := (-10000)) rfl rfl rfl ?_
            exact a_iret rfl rfl
          · refine a_iload_2 rfl rfl ?_
            refine a_iconst (v := (nI 0)) rfl rfl rfl ?_
            refine a_bipush (v := (nI 11)) rfl rfl rfl ?_
            refine a_statI rfl rfl (r_isIn0 v2 0 11 (by omega) (by omega)) (Nat.le_of_ble_eq_true rfl) ⟨rfl, rfl, rfl⟩ rfl rfl rfl (Nat.le_of_ble_eq_true rfl) rfl ?_
            refine a_ifb_eq rfl rfl rfl (fun c_17 => ?_) (fun c_17 => ?_)
            · refine a_sipush (v := (-10000)) rfl rfl rfl ?_
              exact a_iret rfl rfl
            · refine a_iload_3 rfl rfl ?_
              refine a_iconst (v := (-1)) rfl rfl rfl ?_
              refine a_bipush (v := (nI 11)) rfl rfl rfl ?_
              refine a_statI rfl rfl (r_isIn x (-1) 11) (Nat.le_of_ble_eq_true rfl) ⟨rfl, rfl, rfl⟩ rfl rfl rfl (Nat.le_of_ble_eq_true rfl) rfl ?_
              refine a_ifb_ne rfl rfl rfl (fun c_27 => ?_) (fun c_27 => ?_)
              · exfalso; omega
              · refine a_sipush (v := (-10000)) rfl rfl rfl ?_
                exact a_iret rfl rfl
    · refine ⟨-10000, ?_, ?_⟩
      · intro L t lt rt rp sw h gl R H Z
        refine ⟨h, ?_, CF_refl, H, Z⟩
        show avA _ 164 0 [.ref 7, .int (v1), .int (v2), .int (x)] [] _ _
        refine a_iload_1 rfl rfl ?_
        refine a_bipush (v := (nI 12)) rfl rfl rfl ?_
        refine a_statI rfl rfl (e_isWithin v1 12 (by omega)) (Nat.le_of_ble_eq_true rfl) ⟨rfl, rfl, rfl⟩ rfl rfl rfl (Nat.le_of_ble_eq_true rfl) rfl ?_
        refine a_ifb_eq rfl rfl rfl (fun c_6 => ?_) (fun c_6 => ?_)
        · refine a_sipush (v := (-10000)) rfl rfl rfl ?_
          exact a_iret rfl rfl
        · refine a_iload_2 rfl rfl ?_
          refine a_bipush (v := (nI 11)) rfl rfl rfl ?_
          refine a_statI rfl rfl (e_isWithin v2 11 (by omega)) (Nat.le_of_ble_eq_true rfl) ⟨rfl, rfl, rfl⟩ rfl rfl rfl (Nat.le_of_ble_eq_true rfl) rfl ?_
          refine a_ifb_eq rfl rfl rfl (fun c_15 => ?_) (fun c_15 => ?_)
          · refine a_sipush (v := (-10000)) rfl rfl rfl ?_
            exact a_iret rfl rfl
          · refine a_iload_3 rfl rfl ?_
            refine a_iconst (v := (-1)) rfl rfl rfl ?_
            refine a_cmpI_lt rfl rfl rfl rfl (show (-1 : Int32).toInt = -1 from by decide) (fun c_20 => ?_) (fun c_20 => ?_)
            · refine a_sipush (v := (-10000)) rfl rfl rfl ?_
              exact a_iret rfl rfl
            · refine a_iload_3 rfl rfl ?_
              refine a_bipush (v := (nI 12)) rfl rfl rfl ?_
              refine a_cmpI_lt rfl rfl rfl rfl (nI_toInt (by omega)) (fun c_26 => ?_) (fun c_26 => ?_)
              · exfalso; omega
              · refine a_sipush (v := (-10000)) rfl rfl rfl ?_
                exact a_iret rfl rfl
      · intro L t lt rt rp sw h gl ok H
        refine ⟨h, gl, ?_, CF_refl, fun _ _ => rfl, H⟩
        have m1 : (-1 : Int32).toInt = -1 := by decide
        have m2 : (11 : Int32).toInt = 11 := by decide
        show avA _ 314 0 [.ref 81, .int (v1), .int (v2), .int (x), mvU, mvU, mvU] [] _ _
        refine a_iload_1 rfl rfl ?_
        refine a_iconst (v := (nI 0)) rfl rfl rfl ?_
        refine a_bipush (v := (nI 12)) rfl rfl rfl ?_
        refine a_statI rfl rfl (r_isIn0 v1 0 12 (by omega) (by omega)) (Nat.le_of_ble_eq_true rfl) ⟨rfl, rfl, rfl⟩ rfl rfl rfl (Nat.le_of_ble_eq_true rfl) rfl ?_
        refine a_ifb_eq rfl rfl rfl (fun c_7 => ?_) (fun c_7 => ?_)
        · refine a_sipush (v := (-10000)) rfl rfl rfl ?_
          exact a_iret rfl rfl
        · refine a_iload_2 rfl rfl ?_
          refine a_iconst (v := (nI 0)) rfl rfl rfl ?_
          refine a_bipush (v := (nI 11)) rfl rfl rfl ?_
          refine a_statI rfl rfl (r_isIn0 v2 0 11 (by omega) (by omega)) (Nat.le_of_ble_eq_true rfl) ⟨rfl, rfl, rfl⟩ rfl rfl rfl (Nat.le_of_ble_eq_true rfl) rfl ?_
          refine a_ifb_eq rfl rfl rfl (fun c_17 => ?_) (fun c_17 => ?_)
          · refine a_sipush (v := (-10000)) rfl rfl rfl ?_
            exact a_iret rfl rfl
          · refine a_iload_3 rfl rfl ?_
            refine a_iconst (v := (-1)) rfl rfl rfl ?_
            refine a_bipush (v := (nI 11)) rfl rfl rfl ?_
            refine a_statI rfl rfl (r_isIn x (-1) 11) (Nat.le_of_ble_eq_true rfl) ⟨rfl, rfl, rfl⟩ rfl rfl rfl (Nat.le_of_ble_eq_true rfl) rfl ?_
            refine a_ifb_ne rfl rfl rfl (fun c_27 => ?_) (fun c_27 => ?_)
            · exfalso; omega
            · refine a_sipush (v := (-10000)) rfl rfl rfl ?_
              exact a_iret rfl rfl
  · refine ⟨-10000, ?_, ?_⟩
    · intro L t lt rt rp sw h gl R H Z
      refine ⟨h, ?_, CF_refl, H, Z⟩
      show avA _ 164 0 [.ref 7, .int (v1), .int (v2), .int (x)] [] _ _
      refine a_iload_1 rfl rfl ?_
      refine a_bipush (v := (nI 12)) rfl rfl rfl ?_
      refine a_statI rfl rfl (e_isWithin v1 12 (by omega)) (Nat.le_of_ble_eq_true rfl) ⟨rfl, rfl, rfl⟩ rfl rfl rfl (Nat.le_of_ble_eq_true rfl) rfl ?_
      refine a_ifb_eq rfl rfl rfl (fun c_6 => ?_) (fun c_6 => ?_)
      · refine a_sipush (v := (-10000)) rfl rfl rfl ?_
        exact a_iret rfl rfl
      · refine a_iload_2 rfl rfl ?_
        refine a_bipush (v := (nI 11)) rfl rfl rfl ?_
        refine a_statI rfl rfl (e_isWithin v2 11 (by omega)) (Nat.le_of_ble_eq_true rfl) ⟨rfl, rfl, rfl⟩ rfl rfl rfl (Nat.le_of_ble_eq_true rfl) rfl ?_
        refine a_ifb_eq rfl rfl rfl (fun c_15 => ?_) (fun c_15 => ?_)
        · refine a_sipush (v := (-10000)) rfl rfl rfl ?_
          exact a_iret rfl rfl
        · refine a_iload_3 rfl rfl ?_
          refine a_iconst (v := (-1)) rfl rfl rfl ?_
          refine a_cmpI_lt rfl rfl rfl rfl (show (-1 : Int32).toInt = -1 from by decide) (fun c_20 => ?_) (fun c_20 => ?_)
          · refine a_sipush (v := (-10000)) rfl rfl rfl ?_
            exact a_iret rfl rfl
          · refine a_iload_3 rfl rfl ?_
            refine a_bipush (v := (nI 12)) rfl rfl rfl ?_
            refine a_cmpI_lt rfl rfl rfl rfl (nI_toInt (by omega)) (fun c_26 => ?_) (fun c_26 => ?_)
            · exfalso; omega
            · refine a_sipush (v := (-10000)) rfl rfl rfl ?_
              exact a_iret rfl rfl
    · intro L t lt rt rp sw h gl ok H
      refine ⟨h, gl, ?_, CF_refl, fun _ _ => rfl, H⟩
      have m1 : (-1 : Int32).toInt = -1 := by decide
      have m2 : (11 : Int32).toInt = 11 := by decide
      show avA _ 314 0 [.ref 81, .int (v1), .int (v2), .int (x), mvU, mvU, mvU] [] _ _
      refine a_iload_1 rfl rfl ?_
      refine a_iconst (v := (nI 0)) rfl rfl rfl ?_
      refine a_bipush (v := (nI 12)) rfl rfl rfl ?_
      refine a_statI rfl rfl (r_isIn0 v1 0 12 (by omega) (by omega)) (Nat.le_of_ble_eq_true rfl) ⟨rfl, rfl, rfl⟩ rfl rfl rfl (Nat.le_of_ble_eq_true rfl) rfl ?_
      refine a_ifb_eq rfl rfl rfl (fun c_7 => ?_) (fun c_7 => ?_)
      · refine a_sipush (v := (-10000)) rfl rfl rfl ?_
        exact a_iret rfl rfl
      · refine a_iload_2 rfl rfl ?_
        refine a_iconst (v := (nI 0)) rfl rfl rfl ?_
        refine a_bipush (v := (nI 11)) rfl rfl rfl ?_
        refine a_statI rfl rfl (r_isIn0 v2 0 11 (by omega) (by omega)) (Nat.le_of_ble_eq_true rfl) ⟨rfl, rfl, rfl⟩ rfl rfl rfl (Nat.le_of_ble_eq_true rfl) rfl ?_
        refine a_ifb_eq rfl rfl rfl (fun c_17 => ?_) (fun c_17 => ?_)
        · refine a_sipush (v := (-10000)) rfl rfl rfl ?_
          exact a_iret rfl rfl
        · refine a_iload_3 rfl rfl ?_
          refine a_iconst (v := (-1)) rfl rfl rfl ?_
          refine a_bipush (v := (nI 11)) rfl rfl rfl ?_
          refine a_statI rfl rfl (r_isIn x (-1) 11) (Nat.le_of_ble_eq_true rfl) ⟨rfl, rfl, rfl⟩ rfl rfl rfl (Nat.le_of_ble_eq_true rfl) rfl ?_
          refine a_ifb_ne rfl rfl rfl (fun c_27 => ?_) (fun c_27 => ?_)
          · exfalso; omega
          · refine a_sipush (v := (-10000)) rfl rfl rfl ?_
            exact a_iret rfl rfl
end LP
