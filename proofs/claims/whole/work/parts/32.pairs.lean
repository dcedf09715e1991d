/-! PAIRS, TAPE, FLOODS -/
abbrev prP (c v : Int32) (n m : Nat) : Prop := inC c ∧ (0 ≤ v.toInt ∧ v.toInt ≤ 15) ∧ n < m
section PA
variable {L t : Nat} {lt rt rp : Option Nat} {sw : Bool} {h : Nat → Nat → Int32} {gl : Nat → Nat → Int64}
theorem c_tell_Z_20 (v : Int32) : avE 1 138 [.ref 20, .int (-1), .int v] (sX L t lt rt rp sw h gl) (some (.int (nI 0)), sX L t lt rt rp sw (mvPut h 20 2 (nI 0)) gl) := by
  show avA _ 138 0 [.ref 20, .int (-1), .int (v)] [] _ _
  refine a_iload_1 rfl rfl ?_
  refine a_iconst (v := (-1)) rfl rfl rfl ?_
  refine a_cmp_ne rfl rfl rfl (fun c_2 => by first | exact absurd c_2 (not_not_intro rfl) | exact absurd (not_not_intro rfl) c_2) (fun _ => ?_)
  refine a_aload_0 rfl rfl ?_
  refine a_iconst (v := (nI 0)) rfl rfl rfl ?_
  refine a_puti rfl rfl rfl rfl ?_
  refine a_iconst (v := (nI 0)) rfl rfl rfl ?_
  exact a_iret rfl rfl
theorem c_tell_Z_23 (v : Int32) : avE 1 138 [.ref 23, .int (-1), .int v] (sX L t lt rt rp sw h gl) (some (.int (nI 0)), sX L t lt rt rp sw (mvPut h 23 2 (nI 0)) gl) := by
  show avA _ 138 0 [.ref 23, .int (-1), .int (v)] [] _ _
  refine a_iload_1 rfl rfl ?_
  refine a_iconst (v := (-1)) rfl rfl rfl ?_
  refine a_cmp_ne rfl rfl rfl (fun c_2 => by first | exact absurd c_2 (not_not_intro rfl) | exact absurd (not_not_intro rfl) c_2) (fun _ => ?_)
  refine a_aload_0 rfl rfl ?_
  refine a_iconst (v := (nI 0)) rfl rfl rfl ?_
  refine a_puti rfl rfl rfl rfl ?_
  refine a_iconst (v := (nI 0)) rfl rfl rfl ?_
  exact a_iret rfl rfl
theorem c_tell_Z_26 (v : Int32) : avE 1 138 [.ref 26, .int (-1), .int v] (sX L t lt rt rp sw h gl) (some (.int (nI 0)), sX L t lt rt rp sw (mvPut h 26 2 (nI 0)) gl) := by
  show avA _ 138 0 [.ref 26, .int (-1), .int (v)] [] _ _
  refine a_iload_1 rfl rfl ?_
  refine a_iconst (v := (-1)) rfl rfl rfl ?_
  refine a_cmp_ne rfl rfl rfl (fun c_2 => by first | exact absurd c_2 (not_not_intro rfl) | exact absurd (not_not_intro rfl) c_2) (fun _ => ?_)
  refine a_aload_0 rfl rfl ?_
  refine a_iconst (v := (nI 0)) rfl rfl rfl ?_
  refine a_puti rfl rfl rfl rfl ?_
  refine a_iconst (v := (nI 0)) rfl rfl rfl ?_
  exact a_iret rfl rfl
theorem c_tell_Z_29 (v : Int32) : avE 1 138 [.ref 29, .int (-1), .int v] (sX L t lt rt rp sw h gl) (some (.int (nI 0)), sX L t lt rt rp sw (mvPut h 29 2 (nI 0)) gl) := by
  show avA _ 138 0 [.ref 29, .int (-1), .int (v)] [] _ _
  refine a_iload_1 rfl rfl ?_
  refine a_iconst (v := (-1)) rfl rfl rfl ?_
  refine a_cmp_ne rfl rfl rfl (fun c_2 => by first | exact absurd c_2 (not_not_intro rfl) | exact absurd (not_not_intro rfl) c_2) (fun _ => ?_)
  refine a_aload_0 rfl rfl ?_
  refine a_iconst (v := (nI 0)) rfl rfl rfl ?_
  refine a_puti rfl rfl rfl rfl ?_
  refine a_iconst (v := (nI 0)) rfl rfl rfl ?_
  exact a_iret rfl rfl
theorem c_tell_T_20 (n k : Nat) (v : Int32) (hn : n < 30) (hv : 0 ≤ v.toInt ∧ v.toInt ≤ 15) (hk : h 20 2 = nI k) (hk6 : k < 6) : avE 1 138 [.ref 20, .int (nI n), .int v] (sX L t lt rt rp sw h gl) (some (.int (nI (k + 1))), sX L t lt rt rp sw (mvPut (mvPut (mvPut h 21 k (nI n)) 22 k v) 20 2 (nI (k + 1))) gl) := by
  show avA _ 138 0 [.ref 20, .int (nI (n)), .int (v)] [] _ _
  refine a_iload_1 rfl rfl ?_
  refine a_iconst (v := (-1)) rfl rfl rfl ?_
  refine a_cmp_ne rfl rfl rfl (fun _ => ?_) (fun c_2 => by first | exact absurd (nI_ne_m1 (by omega)) c_2 | exact absurd c_2 (nI_ne_m1 (by omega)))
  refine a_iload_1 rfl rfl ?_
  refine a_statI rfl rfl (e_isCell (nI n)) (Nat.le_of_ble_eq_true rfl) ⟨rfl, rfl, rfl⟩ rfl rfl rfl (Nat.le_of_ble_eq_true rfl) rfl ?_
  refine a_ifb_eq rfl rfl rfl (fun c_16 => by first | exact absurd c_16 (not_not_intro (inC_nI hn)) | exact absurd (not_not_intro (inC_nI hn)) c_16) (fun _ => ?_)
  refine a_iload_2 rfl rfl ?_
  refine a_bipush (v := (nI 15)) rfl rfl rfl ?_
  refine a_statI rfl rfl (e_isWithin v 15 (by omega)) (Nat.le_of_ble_eq_true rfl) ⟨rfl, rfl, rfl⟩ rfl rfl rfl (Nat.le_of_ble_eq_true rfl) rfl ?_
  refine a_ifb_eq rfl rfl rfl (fun c_25 => by first | exact absurd c_25 (not_not_intro hv) | exact absurd (not_not_intro hv) c_25) (fun _ => ?_)
  refine a_aload_0 rfl rfl ?_
  refine a_geti rfl rfl rfl (fun _ _ _ => rfl) ?_
  refine a_as (y := nI (k)) hk ?_
  refine a_aload_0 rfl rfl ?_
  refine a_getr rfl rfl rfl (fun _ _ _ => rfl) rfl ?_
  refine a_alen rfl rfl rfl rfl ?_
  refine a_cmpN_lt rfl rfl rfl (by omega) (by omega) (fun _ => ?_) (fun c_37 => False.elim (by omega))
  refine a_aload_0 rfl rfl ?_
  refine a_getr rfl rfl rfl (fun _ _ _ => rfl) rfl ?_
  refine a_aload_0 rfl rfl ?_
  refine a_geti rfl rfl rfl (fun _ _ _ => rfl) ?_
  refine a_as (y := nI (k)) hk ?_
  refine a_iload_1 rfl rfl ?_
  refine a_iast rfl rfl rfl rfl (by omega) (by decide) ?_
  refine a_aload_0 rfl rfl ?_
  refine a_getr rfl rfl rfl (fun _ _ _ => rfl) rfl ?_
  refine a_aload_0 rfl rfl ?_
  refine a_geti rfl rfl rfl (fun _ _ _ => rfl) ?_
  refine a_as (y := nI (k)) hk ?_
  refine a_iload_2 rfl rfl ?_
  refine a_iast rfl rfl rfl rfl (by omega) (by decide) ?_
  refine a_aload_0 rfl rfl ?_
  refine a_dup rfl rfl rfl ?_
  refine a_geti rfl rfl rfl (fun _ _ _ => rfl) ?_
  refine a_as (y := nI (k)) hk ?_
  refine a_iconst (v := (nI 1)) rfl rfl rfl ?_
  refine a_iaddN rfl rfl ?_
  refine a_puti rfl rfl rfl rfl ?_
  refine a_aload_0 rfl rfl ?_
  refine a_geti rfl rfl rfl (fun _ _ _ => rfl) ?_
  refine a_as (y := nI (k + 1)) rfl ?_
  exact a_iret rfl rfl
theorem c_tell_F_20 (c v : Int32) (k : Nat) (hc : ¬ c = -1) (hk : h 20 2 = nI k) (hk6 : k ≤ 6) (hv : ¬ prP c v k 6) : avE 1 138 [.ref 20, .int c, .int v] (sX L t lt rt rp sw h gl) (some (.int (-2)), sX L t lt rt rp sw h gl) := by
  show avA _ 138 0 [.ref 20, .int (c), .int (v)] [] _ _
  refine a_iload_1 rfl rfl ?_
  refine a_iconst (v := (-1)) rfl rfl rfl ?_
  refine a_cmp_ne rfl rfl rfl (fun _ => ?_) (fun c_2 => by first | exact absurd hc c_2 | exact absurd c_2 hc)
  refine a_iload_1 rfl rfl ?_
  refine a_statI rfl rfl (e_isCell c) (Nat.le_of_ble_eq_true rfl) ⟨rfl, rfl, rfl⟩ rfl rfl rfl (Nat.le_of_ble_eq_true rfl) rfl ?_
  refine a_ifb_eq rfl rfl rfl (fun c_16 => ?_) (fun c_16 => ?_)
  · refine a_bipush (v := (-2)) rfl rfl rfl ?_
    exact a_iret rfl rfl
  · refine a_iload_2 rfl rfl ?_
    refine a_bipush (v := (nI 15)) rfl rfl rfl ?_
    refine a_statI rfl rfl (e_isWithin v 15 (by omega)) (Nat.le_of_ble_eq_true rfl) ⟨rfl, rfl, rfl⟩ rfl rfl rfl (Nat.le_of_ble_eq_true rfl) rfl ?_
    refine a_ifb_eq rfl rfl rfl (fun c_25 => ?_) (fun c_25 => ?_)
    · refine a_bipush (v := (-2)) rfl rfl rfl ?_
      exact a_iret rfl rfl
    · refine a_aload_0 rfl rfl ?_
      refine a_geti rfl rfl rfl (fun _ _ _ => rfl) ?_
      refine a_as (y := nI (k)) hk ?_
      refine a_aload_0 rfl rfl ?_
      refine a_getr rfl rfl rfl (fun _ _ _ => rfl) rfl ?_
      refine a_alen rfl rfl rfl rfl ?_
      refine a_cmpN_lt rfl rfl rfl (by omega) (by omega) (fun c_37 => False.elim (hv ⟨c_16, c_25, c_37⟩)) (fun _ => ?_)
      refine a_bipush (v := (-2)) rfl rfl rfl ?_
      exact a_iret rfl rfl
theorem c_tell_T_23 (n k : Nat) (v : Int32) (hn : n < 30) (hv : 0 ≤ v.toInt ∧ v.toInt ≤ 15) (hk : h 23 2 = nI k) (hk6 : k < 6) : avE 1 138 [.ref 23, .int (nI n), .int v] (sX L t lt rt rp sw h gl) (some (.int (nI (k + 1))), sX L t lt rt rp sw (mvPut (mvPut (mvPut h 24 k (nI n)) 25 k v) 23 2 (nI (k + 1))) gl) := by
  show avA _ 138 0 [.ref 23, .int (nI (n)), .int (v)] [] _ _
  refine a_iload_1 rfl rfl ?_
  refine a_iconst (v := (-1)) rfl rfl rfl ?_
  refine a_cmp_ne rfl rfl rfl (fun _ => ?_) (fun c_2 => by first | exact absurd (nI_ne_m1 (by omega)) c_2 | exact absurd c_2 (nI_ne_m1 (by omega)))
  refine a_iload_1 rfl rfl ?_
  refine a_statI rfl rfl (e_isCell (nI n)) (Nat.le_of_ble_eq_true rfl) ⟨rfl, rfl, rfl⟩ rfl rfl rfl (Nat.le_of_ble_eq_true rfl) rfl ?_
  refine a_ifb_eq rfl rfl rfl (fun c_16 => by first | exact absurd c_16 (not_not_intro (inC_nI hn)) | exact absurd (not_not_intro (inC_nI hn)) c_16) (fun _ => ?_)
  refine a_iload_2 rfl rfl ?_
  refine a_bipush (v := (nI 15)) rfl rfl rfl ?_
  refine a_statI rfl rfl (e_isWithin v 15 (by omega)) (Nat.le_of_ble_eq_true rfl) ⟨rfl, rfl, rfl⟩ rfl rfl rfl (Nat.le_of_ble_eq_true rfl) rfl ?_
  refine a_ifb_eq rfl rfl rfl (fun c_25 => by first | exact absurd c_25 (not_not_intro hv) | exact absurd (not_not_intro hv) c_25) (fun _ => ?_)
  refine a_aload_0 rfl rfl ?_
  refine a_geti rfl rfl rfl (fun _ _ _ => rfl) ?_
  refine a_as (y := nI (k)) hk ?_
  refine a_aload_0 rfl rfl ?_
  refine a_getr rfl rfl rfl (fun _ _ _ => rfl) rfl ?_
  refine a_alen rfl rfl rfl rfl ?_
  refine a_cmpN_lt rfl rfl rfl (by omega) (by omega) (fun _ => ?_) (fun c_37 => False.elim (by omega))
  refine a_aload_0 rfl rfl ?_
  refine a_getr rfl rfl rfl (fun _ _ _ => rfl) rfl ?_
  refine a_aload_0 rfl rfl ?_
  refine a_geti rfl rfl rfl (fun _ _ _ => rfl) ?_
  refine a_as (y := nI (k)) hk ?_
  refine a_iload_1 rfl rfl ?_
  refine a_iast rfl rfl rfl rfl (by omega) (by decide) ?_
  refine a_aload_0 rfl rfl ?_
  refine a_getr rfl rfl rfl (fun _ _ _ => rfl) rfl ?_
  refine a_aload_0 rfl rfl ?_
  refine a_geti rfl rfl rfl (fun _ _ _ => rfl) ?_
  refine a_as (y := nI (k)) hk ?_
  refine a_iload_2 rfl rfl ?_
  refine a_iast rfl rfl rfl rfl (by omega) (by decide) ?_
  refine a_aload_0 rfl rfl ?_
  refine a_dup rfl rfl rfl ?_
  refine a_geti rfl rfl rfl (fun _ _ _ => rfl) ?_
  refine a_as (y := nI (k)) hk ?_
  refine a_iconst (v := (nI 1)) rfl rfl rfl ?_
  refine a_iaddN rfl rfl ?_
  refine a_puti rfl rfl rfl rfl ?_
  refine a_aload_0 rfl rfl ?_
  refine a_geti rfl rfl rfl (fun _ _ _ => rfl) ?_
  refine a_as (y := nI (k + 1)) rfl ?_
  exact a_iret rfl rfl
theorem c_tell_F_23 (c v : Int32) (k : Nat) (hc : ¬ c = -1) (hk : h 23 2 = nI k) (hk6 : k ≤ 6) (hv : ¬ prP c v k 6) : avE 1 138 [.ref 23, .int c, .int v] (sX L t lt rt rp sw h gl) (some (.int (-2)), sX L t lt rt rp sw h gl) := by
  show avA _ 138 0 [.ref 23, .int (c), .int (v)] [] _ _
  refine a_iload_1 rfl rfl ?_
  refine a_iconst (v := (-1)) rfl rfl rfl ?_
  refine a_cmp_ne rfl rfl rfl (fun _ => ?_) (fun c_2 => by first | exact absurd hc c_2 | exact absurd c_2 hc)
  refine a_iload_1 rfl rfl ?_
  refine a_statI rfl rfl (e_isCell c) (Nat.le_of_ble_eq_true rfl) ⟨rfl, rfl, rfl⟩ rfl rfl rfl (Nat.le_of_ble_eq_true rfl) rfl ?_
  refine a_ifb_eq rfl rfl rfl (fun c_16 => ?_) (fun c_16 => ?_)
  · refine a_bipush (v := (-2)) rfl rfl rfl ?_
    exact a_iret rfl rfl
  · refine a_iload_2 rfl rfl ?_
    refine a_bipush (v := (nI 15)) rfl rfl rfl ?_
    refine a_statI rfl rfl (e_isWithin v 15 (by omega)) (Nat.le_of_ble_eq_true rfl) ⟨rfl, rfl, rfl⟩ rfl rfl rfl (Nat.le_of_ble_eq_true rfl) rfl ?_
    refine a_ifb_eq rfl rfl rfl (fun c_25 => ?_) (fun c_25 => ?_)
    · refine a_bipush (v := (-2)) rfl rfl rfl ?_
      exact a_iret rfl rfl
    · refine a_aload_0 rfl rfl ?_
      refine a_geti rfl rfl rfl (fun _ _ _ => rfl) ?_
      refine a_as (y := nI (k)) hk ?_
      refine a_aload_0 rfl rfl ?_
      refine a_getr rfl rfl rfl (fun _ _ _ => rfl) rfl ?_
      refine a_alen rfl rfl rfl rfl ?_
      refine a_cmpN_lt rfl rfl rfl (by omega) (by omega) (fun c_37 => False.elim (hv ⟨c_16, c_25, c_37⟩)) (fun _ => ?_)
      refine a_bipush (v := (-2)) rfl rfl rfl ?_
      exact a_iret rfl rfl
theorem c_tell_T_26 (n k : Nat) (v : Int32) (hn : n < 30) (hv : 0 ≤ v.toInt ∧ v.toInt ≤ 15) (hk : h 26 2 = nI k) (hk6 : k < 8) : avE 1 138 [.ref 26, .int (nI n), .int v] (sX L t lt rt rp sw h gl) (some (.int (nI (k + 1))), sX L t lt rt rp sw (mvPut (mvPut (mvPut h 27 k (nI n)) 28 k v) 26 2 (nI (k + 1))) gl) := by
  show avA _ 138 0 [.ref 26, .int (nI (n)), .int (v)] [] _ _
  refine a_iload_1 rfl rfl ?_
  refine a_iconst (v := (-1)) rfl rfl rfl ?_
  refine a_cmp_ne rfl rfl rfl (fun _ => ?_) (fun c_2 => by first | exact absurd (nI_ne_m1 (by omega)) c_2 | exact absurd c_2 (nI_ne_m1 (by omega)))
  refine a_iload_1 rfl rfl ?_
  refine a_statI rfl rfl (e_isCell (nI n)) (Nat.le_of_ble_eq_true rfl) ⟨rfl, rfl, rfl⟩ rfl rfl rfl (Nat.le_of_ble_eq_true rfl) rfl ?_
  refine a_ifb_eq rfl rfl rfl (fun c_16 => by first | exact absurd c_16 (not_not_intro (inC_nI hn)) | exact absurd (not_not_intro (inC_nI hn)) c_16) (fun _ => ?_)
  refine a_iload_2 rfl rfl ?_
  refine a_bipush (v := (nI 15)) rfl rfl rfl ?_
  refine a_statI rfl rfl (e_isWithin v 15 (by omega)) (Nat.le_of_ble_eq_true rfl) ⟨rfl, rfl, rfl⟩ rfl rfl rfl (Nat.le_of_ble_eq_true rfl) rfl ?_
  refine a_ifb_eq rfl rfl rfl (fun c_25 => by first | exact absurd c_25 (not_not_intro hv) | exact absurd (not_not_intro hv) c_25) (fun _ => ?_)
  refine a_aload_0 rfl rfl ?_
  refine a_geti rfl rfl rfl (fun _ _ _ => rfl) ?_
  refine a_as (y := nI (k)) hk ?_
  refine a_aload_0 rfl rfl ?_
  refine a_getr rfl rfl rfl (fun _ _ _ => rfl) rfl ?_
  refine a_alen rfl rfl rfl rfl ?_
  refine a_cmpN_lt rfl rfl rfl (by omega) (by omega) (fun _ => ?_) (fun c_37 => False.elim (by omega))
  refine a_aload_0 rfl rfl ?_
  refine a_getr rfl rfl rfl (fun _ _ _ => rfl) rfl ?_
  refine a_aload_0 rfl rfl ?_
  refine a_geti rfl rfl rfl (fun _ _ _ => rfl) ?_
  refine a_as (y := nI (k)) hk ?_
  refine a_iload_1 rfl rfl ?_
  refine a_iast rfl rfl rfl rfl (by omega) (by decide) ?_
  refine a_aload_0 rfl rfl ?_
  refine a_getr rfl rfl rfl (fun _ _ _ => rfl) rfl ?_
  refine a_aload_0 rfl rfl ?_
  refine a_geti rfl rfl rfl (fun _ _ _ => rfl) ?_
  refine a_as (y := nI (k)) hk ?_
  refine a_iload_2 rfl rfl ?_
  refine a_iast rfl rfl rfl rfl (by omega) (by decide) ?_
  refine a_aload_0 rfl rfl ?_
  refine a_dup rfl rfl rfl ?_
  refine a_geti rfl rfl rfl (fun _ _ _ => rfl) ?_
  refine a_as (y := nI (k)) hk ?_
  refine a_iconst (v := (nI 1)) rfl rfl rfl ?_
  refine a_iaddN rfl rfl ?_
  refine a_puti rfl rfl rfl rfl ?_
  refine a_aload_0 rfl rfl ?_
  refine a_geti rfl rfl rfl (fun _ _ _ => rfl) ?_
  refine a_as (y := nI (k + 1)) rfl ?_
  exact a_iret rfl rfl
theorem c_tell_F_26 (c v : Int32) (k : Nat) (hc : ¬ c = -1) (hk : h 26 2 = nI k) (hk6 : k ≤ 8) (hv : ¬ prP c v k 8) : avE 1 138 [.ref 26, .int c, .int v] (sX L t lt rt rp sw h gl) (some (.int (-2)), sX L t lt rt rp sw h gl) := by
  show avA _ 138 0 [.ref 26, .int (c), .int (v)] [] _ _
  refine a_iload_1 rfl rfl ?_
  refine a_iconst (v := (-1)) rfl rfl rfl ?_
  refine a_cmp_ne rfl rfl rfl (fun _ => ?_) (fun c_2 => by first | exact absurd hc c_2 | exact absurd c_2 hc)
  refine a_iload_1 rfl rfl ?_
  refine a_statI rfl rfl (e_isCell c) (Nat.le_of_ble_eq_true rfl) ⟨rfl, rfl, rfl⟩ rfl rfl rfl (Nat.le_of_ble_eq_true rfl) rfl ?_
  refine a_ifb_eq rfl rfl rfl (fun c_16 => ?_) (fun c_16 => ?_)
  · refine a_bipush (v := (-2)) rfl rfl rfl ?_
    exact a_iret rfl rfl
  · refine a_iload_2 rfl rfl ?_
    refine a_bipush (v := (nI 15)) rfl rfl rfl ?_
    refine a_statI rfl rfl (e_isWithin v 15 (by omega)) (Nat.le_of_ble_eq_true rfl) ⟨rfl, rfl, rfl⟩ rfl rfl rfl (Nat.le_of_ble_eq_true rfl) rfl ?_
    refine a_ifb_eq rfl rfl rfl (fun c_25 => ?_) (fun c_25 => ?_)
    · refine a_bipush (v := (-2)) rfl rfl rfl ?_
      exact a_iret rfl rfl
    · refine a_aload_0 rfl rfl ?_
      refine a_geti rfl rfl rfl (fun _ _ _ => rfl) ?_
      refine a_as (y := nI (k)) hk ?_
      refine a_aload_0 rfl rfl ?_
      refine a_getr rfl rfl rfl (fun _ _ _ => rfl) rfl ?_
      refine a_alen rfl rfl rfl rfl ?_
      refine a_cmpN_lt rfl rfl rfl (by omega) (by omega) (fun c_37 => False.elim (hv ⟨c_16, c_25, c_37⟩)) (fun _ => ?_)
      refine a_bipush (v := (-2)) rfl rfl rfl ?_
      exact a_iret rfl rfl
theorem c_tell_T_29 (n k : Nat) (v : Int32) (hn : n < 30) (hv : 0 ≤ v.toInt ∧ v.toInt ≤ 15) (hk : h 29 2 = nI k) (hk6 : k < 8) : avE 1 138 [.ref 29, .int (nI n), .int v] (sX L t lt rt rp sw h gl) (some (.int (nI (k + 1))), sX L t lt rt rp sw (mvPut (mvPut (mvPut h 30 k (nI n)) 31 k v) 29 2 (nI (k + 1))) gl) := by
  show avA _ 138 0 [.ref 29, .int (nI (n)), .int (v)] [] _ _
  refine a_iload_1 rfl rfl ?_
  refine a_iconst (v := (-1)) rfl rfl rfl ?_
  refine a_cmp_ne rfl rfl rfl (fun _ => ?_) (fun c_2 => by first | exact absurd (nI_ne_m1 (by omega)) c_2 | exact absurd c_2 (nI_ne_m1 (by omega)))
  refine a_iload_1 rfl rfl ?_
  refine a_statI rfl rfl (e_isCell (nI n)) (Nat.le_of_ble_eq_true rfl) ⟨rfl, rfl, rfl⟩ rfl rfl rfl (Nat.le_of_ble_eq_true rfl) rfl ?_
  refine a_ifb_eq rfl rfl rfl (fun c_16 => by first | exact absurd c_16 (not_not_intro (inC_nI hn)) | exact absurd (not_not_intro (inC_nI hn)) c_16) (fun _ => ?_)
  refine a_iload_2 rfl rfl ?_
  refine a_bipush (v := (nI 15)) rfl rfl rfl ?_
  refine a_statI rfl rfl (e_isWithin v 15 (by omega)) (Nat.le_of_ble_eq_true rfl) ⟨rfl, rfl, rfl⟩ rfl rfl rfl (Nat.le_of_ble_eq_true rfl) rfl ?_
  refine a_ifb_eq rfl rfl rfl (fun c_25 => by first | exact absurd c_25 (not_not_intro hv) | exact absurd (not_not_intro hv) c_25) (fun _ => ?_)
  refine a_aload_0 rfl rfl ?_
  refine a_geti rfl rfl rfl (fun _ _ _ => rfl) ?_
  refine a_as (y := nI (k)) hk ?_
  refine a_aload_0 rfl rfl ?_
  refine a_getr rfl rfl rfl (fun _ _ _ => rfl) rfl ?_
  refine a_alen rfl rfl rfl rfl ?_
  refine a_cmpN_lt rfl rfl rfl (by omega) (by omega) (fun _ => ?_) (fun c_37 => False.elim (by omega))
  refine a_aload_0 rfl rfl ?_
  refine a_getr rfl rfl rfl (fun _ _ _ => rfl) rfl ?_
  refine a_aload_0 rfl rfl ?_
  refine a_geti rfl rfl rfl (fun _ _ _ => rfl) ?_
  refine a_as (y := nI (k)) hk ?_
  refine a_iload_1 rfl rfl ?_
  refine a_iast rfl rfl rfl rfl (by omega) (by decide) ?_
  refine a_aload_0 rfl rfl ?_
  refine a_getr rfl rfl rfl (fun _ _ _ => rfl) rfl ?_
  refine a_aload_0 rfl rfl ?_
  refine a_geti rfl rfl rfl (fun _ _ _ => rfl) ?_
  refine a_as (y := nI (k)) hk ?_
  refine a_iload_2 rfl rfl ?_
  refine a_iast rfl rfl rfl rfl (by omega) (by decide) ?_
  refine a_aload_0 rfl rfl ?_
  refine a_dup rfl rfl rfl ?_
  refine a_geti rfl rfl rfl (fun _ _ _ => rfl) ?_
  refine a_as (y := nI (k)) hk ?_
  refine a_iconst (v := (nI 1)) rfl rfl rfl ?_
  refine a_iaddN rfl rfl ?_
  refine a_puti rfl rfl rfl rfl ?_
  refine a_aload_0 rfl rfl ?_
  refine a_geti rfl rfl rfl (fun _ _ _ => rfl) ?_
  refine a_as (y := nI (k + 1)) rfl ?_
  exact a_iret rfl rfl
theorem c_tell_F_29 (c v : Int32) (k : Nat) (hc : ¬ c = -1) (hk : h 29 2 = nI k) (hk6 : k ≤ 8) (hv : ¬ prP c v k 8) : avE 1 138 [.ref 29, .int c, .int v] (sX L t lt rt rp sw h gl) (some (.int (-2)), sX L t lt rt rp sw h gl) := by
  show avA _ 138 0 [.ref 29, .int (c), .int (v)] [] _ _
  refine a_iload_1 rfl rfl ?_
  refine a_iconst (v := (-1)) rfl rfl rfl ?_
  refine a_cmp_ne rfl rfl rfl (fun _ => ?_) (fun c_2 => by first | exact absurd hc c_2 | exact absurd c_2 hc)
  refine a_iload_1 rfl rfl ?_
  refine a_statI rfl rfl (e_isCell c) (Nat.le_of_ble_eq_true rfl) ⟨rfl, rfl, rfl⟩ rfl rfl rfl (Nat.le_of_ble_eq_true rfl) rfl ?_
  refine a_ifb_eq rfl rfl rfl (fun c_16 => ?_) (fun c_16 => ?_)
  · refine a_bipush (v := (-2)) rfl rfl rfl ?_
    exact a_iret rfl rfl
  · refine a_iload_2 rfl rfl ?_
    refine a_bipush (v := (nI 15)) rfl rfl rfl ?_
    refine a_statI rfl rfl (e_isWithin v 15 (by omega)) (Nat.le_of_ble_eq_true rfl) ⟨rfl, rfl, rfl⟩ rfl rfl rfl (Nat.le_of_ble_eq_true rfl) rfl ?_
    refine a_ifb_eq rfl rfl rfl (fun c_25 => ?_) (fun c_25 => ?_)
    · refine a_bipush (v := (-2)) rfl rfl rfl ?_
      exact a_iret rfl rfl
    · refine a_aload_0 rfl rfl ?_
      refine a_geti rfl rfl rfl (fun _ _ _ => rfl) ?_
      refine a_as (y := nI (k)) hk ?_
      refine a_aload_0 rfl rfl ?_
      refine a_getr rfl rfl rfl (fun _ _ _ => rfl) rfl ?_
      refine a_alen rfl rfl rfl rfl ?_
      refine a_cmpN_lt rfl rfl rfl (by omega) (by omega) (fun c_37 => False.elim (hv ⟨c_16, c_25, c_37⟩)) (fun _ => ?_)
      refine a_bipush (v := (-2)) rfl rfl rfl ?_
      exact a_iret rfl rfl
theorem r_behind_Z_20 (v : Int32) : avE 2 295 [.ref 81, .int (nI 98), .int (nI 4), .int (-1), .int v] (sX L t lt rt rp sw h gl) (some (.int (nI 0)), sX L t lt rt rp sw (mvPut h 82 4 (nI 0)) gl) := by
  show avA _ 295 0 [.ref 81, .int (nI 98), .int (nI 4), .int (-1), .int (v)] [] _ _
  refine a_iload_3 rfl rfl ?_
  refine a_iconst (v := (-1)) rfl rfl rfl ?_
  refine a_cmp_ne rfl rfl rfl (fun c_2 => by first | exact absurd c_2 (not_not_intro rfl) | exact absurd (not_not_intro rfl) c_2) (fun _ => ?_)
  refine a_aload_0 rfl rfl ?_
  refine a_getr rfl rfl rfl (fun _ _ _ => rfl) rfl ?_
  refine a_iload_2 rfl rfl ?_
  refine a_iconst (v := (nI 0)) rfl rfl rfl ?_
  refine a_iast rfl rfl rfl rfl (by omega) (by decide) ?_
  refine a_iconst (v := (nI 0)) rfl rfl rfl ?_
  exact a_iret rfl rfl
theorem r_behind_T_20 (n k : Nat) (v : Int32) (hn : n < 30) (hv : 0 ≤ v.toInt ∧ v.toInt ≤ 15) (hk : h 82 4 = nI k) (hk6 : k < 6) : avE 2 295 [.ref 81, .int (nI 98), .int (nI 4), .int (nI n), .int v] (sX L t lt rt rp sw h gl) (some (.int (nI (k + 1))), sX L t lt rt rp sw (mvPut (mvPut (mvPut h 82 (98 + 2 * k) (nI n)) 82 (98 + 2 * k + 1) v) 82 4 (nI (k + 1))) gl) := by
  have e1 : (mvPut h 82 (98 + 2 * k) (nI n)) 82 4 = nI k := by
    show va_up (h 82) (98 + 2 * k) (nI n) 4 = nI k
    rw [va_up_ne _ _ (by omega)]
    exact hk
  have e2 : (mvPut (mvPut h 82 (98 + 2 * k) (nI n)) 82 (98 + 2 * k + 1) v) 82 4 = nI k := by
    show va_up ((mvPut h 82 (98 + 2 * k) (nI n)) 82) (98 + 2 * k + 1) v 4 = nI k
    rw [va_up_ne _ _ (by omega)]
    exact e1
  show avA _ 295 0 [.ref 81, .int (nI 98), .int (nI 4), .int (nI (n)), .int (v)] [] _ _
  refine a_iload_3 rfl rfl ?_
  refine a_iconst (v := (-1)) rfl rfl rfl ?_
  refine a_cmp_ne rfl rfl rfl (fun _ => ?_) (fun c_2 => by first | exact absurd (nI_ne_m1 (by omega)) c_2 | exact absurd c_2 (nI_ne_m1 (by omega)))
  refine a_iload_3 rfl rfl ?_
  refine a_statI rfl rfl (r_isCell (nI n)) (Nat.le_of_ble_eq_true rfl) ⟨rfl, rfl, rfl⟩ rfl rfl rfl (Nat.le_of_ble_eq_true rfl) rfl ?_
  refine a_ifb_eq rfl rfl rfl (fun c_18 => by first | exact absurd c_18 (not_not_intro (inC_nI hn)) | exact absurd (not_not_intro (inC_nI hn)) c_18) (fun _ => ?_)
  refine a_iload_4 rfl rfl ?_
  refine a_iconst (v := (nI 0)) rfl rfl rfl ?_
  refine a_bipush (v := (nI 15)) rfl rfl rfl ?_
  refine a_statI rfl rfl (r_isIn0 v 0 15 (by omega) (by omega)) (Nat.le_of_ble_eq_true rfl) ⟨rfl, rfl, rfl⟩ rfl rfl rfl (Nat.le_of_ble_eq_true rfl) rfl ?_
  refine a_ifb_eq rfl rfl rfl (fun c_29 => by first | exact absurd c_29 (not_not_intro hv) | exact absurd (not_not_intro hv) c_29) (fun _ => ?_)
  refine a_aload_0 rfl rfl ?_
  refine a_getr rfl rfl rfl (fun _ _ _ => rfl) rfl ?_
  refine a_iload_2 rfl rfl ?_
  refine a_iald rfl rfl (Or.inl rfl) rfl (by omega) (by decide) ?_
  refine a_as (y := nI (k)) hk ?_
  refine a_iload_2 rfl rfl ?_
  refine a_iconst (v := (nI 4)) rfl rfl rfl ?_
  refine a_cmpN_eq rfl rfl rfl (by omega) (by omega) (fun _ => ?_) (fun c_40 => absurd c_40 (by decide))
  refine a_bipush (v := (nI 6)) rfl rfl rfl ?_
  refine a_goto rfl rfl ?_
  refine a_cmpN_ne rfl rfl rfl (by omega) (by omega) (fun _ => ?_) (fun c_55 => False.elim (by omega))
  refine a_aload_0 rfl rfl ?_
  refine a_getr rfl rfl rfl (fun _ _ _ => rfl) rfl ?_
  refine a_iload_1 rfl rfl ?_
  refine a_iconst (v := (nI 2)) rfl rfl rfl ?_
  refine a_aload_0 rfl rfl ?_
  refine a_getr rfl rfl rfl (fun _ _ _ => rfl) rfl ?_
  refine a_iload_2 rfl rfl ?_
  refine a_iald rfl rfl (Or.inl rfl) rfl (by omega) (by decide) ?_
  refine a_as (y := nI (k)) hk ?_
  refine a_imulN rfl rfl ?_
  refine a_iaddN rfl rfl ?_
  refine a_iload_3 rfl rfl ?_
  refine a_iast rfl rfl rfl rfl (by omega) (by decide) ?_
  refine a_aload_0 rfl rfl ?_
  refine a_getr rfl rfl rfl (fun _ _ _ => rfl) rfl ?_
  refine a_iload_1 rfl rfl ?_
  refine a_iconst (v := (nI 2)) rfl rfl rfl ?_
  refine a_aload_0 rfl rfl ?_
  refine a_getr rfl rfl rfl (fun _ _ _ => rfl) rfl ?_
  refine a_iload_2 rfl rfl ?_
  refine a_iald rfl rfl (Or.inl rfl) rfl (by omega) (by decide) ?_
  refine a_as (y := nI (k)) e1 ?_
  refine a_imulN rfl rfl ?_
  refine a_iaddN rfl rfl ?_
  refine a_iconst (v := (nI 1)) rfl rfl rfl ?_
  refine a_iaddN rfl rfl ?_
  refine a_iload_4 rfl rfl ?_
  refine a_iast rfl rfl rfl rfl (by omega) (by decide) ?_
  refine a_aload_0 rfl rfl ?_
  refine a_getr rfl rfl rfl (fun _ _ _ => rfl) rfl ?_
  refine a_iload_2 rfl rfl ?_
  refine a_dup2 rfl rfl rfl ?_
  refine a_iald rfl rfl (Or.inl rfl) rfl (by omega) (by decide) ?_
  refine a_as (y := nI (k)) e2 ?_
  refine a_iconst (v := (nI 1)) rfl rfl rfl ?_
  refine a_iaddN rfl rfl ?_
  refine a_iast rfl rfl rfl rfl (by omega) (by decide) ?_
  refine a_aload_0 rfl rfl ?_
  refine a_getr rfl rfl rfl (fun _ _ _ => rfl) rfl ?_
  refine a_iload_2 rfl rfl ?_
  refine a_iald rfl rfl (Or.inl rfl) rfl (by omega) (by decide) ?_
  exact a_iret rfl rfl
theorem r_behind_F_20 (c v : Int32) (k : Nat) (hc : ¬ c = -1) (hk : h 82 4 = nI k) (hk6 : k ≤ 6) (hv : ¬ prP c v k 6) : avE 2 295 [.ref 81, .int (nI 98), .int (nI 4), .int c, .int v] (sX L t lt rt rp sw h gl) (some (.int (-2)), sX L t lt rt rp sw h gl) := by
  show avA _ 295 0 [.ref 81, .int (nI 98), .int (nI 4), .int (c), .int (v)] [] _ _
  refine a_iload_3 rfl rfl ?_
  refine a_iconst (v := (-1)) rfl rfl rfl ?_
  refine a_cmp_ne rfl rfl rfl (fun _ => ?_) (fun c_2 => by first | exact absurd hc c_2 | exact absurd c_2 hc)
  refine a_iload_3 rfl rfl ?_
  refine a_statI rfl rfl (r_isCell c) (Nat.le_of_ble_eq_true rfl) ⟨rfl, rfl, rfl⟩ rfl rfl rfl (Nat.le_of_ble_eq_true rfl) rfl ?_
  refine a_ifb_eq rfl rfl rfl (fun c_18 => ?_) (fun c_18 => ?_)
  · refine a_bipush (v := (-2)) rfl rfl rfl ?_
    exact a_iret rfl rfl
  · refine a_iload_4 rfl rfl ?_
    refine a_iconst (v := (nI 0)) rfl rfl rfl ?_
    refine a_bipush (v := (nI 15)) rfl rfl rfl ?_
    refine a_statI rfl rfl (r_isIn0 v 0 15 (by omega) (by omega)) (Nat.le_of_ble_eq_true rfl) ⟨rfl, rfl, rfl⟩ rfl rfl rfl (Nat.le_of_ble_eq_true rfl) rfl ?_
    refine a_ifb_eq rfl rfl rfl (fun c_29 => ?_) (fun c_29 => ?_)
    · refine a_bipush (v := (-2)) rfl rfl rfl ?_
      exact a_iret rfl rfl
    · refine a_aload_0 rfl rfl ?_
      refine a_getr rfl rfl rfl (fun _ _ _ => rfl) rfl ?_
      refine a_iload_2 rfl rfl ?_
      refine a_iald rfl rfl (Or.inl rfl) rfl (by omega) (by decide) ?_
      refine a_as (y := nI (k)) hk ?_
      refine a_iload_2 rfl rfl ?_
      refine a_iconst (v := (nI 4)) rfl rfl rfl ?_
      refine a_cmpN_eq rfl rfl rfl (by omega) (by omega) (fun _ => ?_) (fun c_40 => absurd c_40 (by decide))
      refine a_bipush (v := (nI 6)) rfl rfl rfl ?_
      refine a_goto rfl rfl ?_
      refine a_cmpN_ne rfl rfl rfl (by omega) (by omega) (fun c_55 => False.elim (hv ⟨c_18, c_29, Nat.lt_of_le_of_ne hk6 c_55⟩)) (fun _ => ?_)
      refine a_bipush (v := (-2)) rfl rfl rfl ?_
      exact a_iret rfl rfl
theorem r_behind_Z_23 (v : Int32) : avE 2 295 [.ref 81, .int (nI 110), .int (nI 5), .int (-1), .int v] (sX L t lt rt rp sw h gl) (some (.int (nI 0)), sX L t lt rt rp sw (mvPut h 82 5 (nI 0)) gl) := by
  show avA _ 295 0 [.ref 81, .int (nI 110), .int (nI 5), .int (-1), .int (v)] [] _ _
  refine a_iload_3 rfl rfl ?_
  refine a_iconst (v := (-1)) rfl rfl rfl ?_
  refine a_cmp_ne rfl rfl rfl (fun c_2 => by first | exact absurd c_2 (not_not_intro rfl) | exact absurd (not_not_intro rfl) c_2) (fun _ => ?_)
  refine a_aload_0 rfl rfl ?_
  refine a_getr rfl rfl rfl (fun _ _ _ => rfl) rfl ?_
  refine a_iload_2 rfl rfl ?_
  refine a_iconst (v := (nI 0)) rfl rfl rfl ?_
  refine a_iast rfl rfl rfl rfl (by omega) (by decide) ?_
  refine a_iconst (v := (nI 0)) rfl rfl rfl ?_
  exact a_iret rfl rfl
theorem r_behind_T_23 (n k : Nat) (v : Int32) (hn : n < 30) (hv : 0 ≤ v.toInt ∧ v.toInt ≤ 15) (hk : h 82 5 = nI k) (hk6 : k < 6) : avE 2 295 [.ref 81, .int (nI 110), .int (nI 5), .int (nI n), .int v] (sX L t lt rt rp sw h gl) (some (.int (nI (k + 1))), sX L t lt rt rp sw (mvPut (mvPut (mvPut h 82 (110 + 2 * k) (nI n)) 82 (110 + 2 * k + 1) v) 82 5 (nI (k + 1))) gl) := by
  have e1 : (mvPut h 82 (110 + 2 * k) (nI n)) 82 5 = nI k := by
    show va_up (h 82) (110 + 2 * k) (nI n) 5 = nI k
    rw [va_up_ne _ _ (by omega)]
    exact hk
  have e2 : (mvPut (mvPut h 82 (110 + 2 * k) (nI n)) 82 (110 + 2 * k + 1) v) 82 5 = nI k := by
    show va_up ((mvPut h 82 (110 + 2 * k) (nI n)) 82) (110 + 2 * k + 1) v 5 = nI k
    rw [va_up_ne _ _ (by omega)]
    exact e1
  show avA _ 295 0 [.ref 81, .int (nI 110), .int (nI 5), .int (nI (n)), .int (v)] [] _ _
  refine a_iload_3 rfl rfl ?_
  refine a_iconst (v := (-1)) rfl rfl rfl ?_
  refine a_cmp_ne rfl rfl rfl (fun _ => ?_) (fun c_2 => by first | exact absurd (nI_ne_m1 (by omega)) c_2 | exact absurd c_2 (nI_ne_m1 (by omega)))
  refine a_iload_3 rfl rfl ?_
  refine a_statI rfl rfl (r_isCell (nI n)) (Nat.le_of_ble_eq_true rfl) ⟨rfl, rfl, rfl⟩ rfl rfl rfl (Nat.le_of_ble_eq_true rfl) rfl ?_
  refine a_ifb_eq rfl rfl rfl (fun c_18 => by first | exact absurd c_18 (not_not_intro (inC_nI hn)) | exact absurd (not_not_intro (inC_nI hn)) c_18) (fun _ => ?_)
  refine a_iload_4 rfl rfl ?_
  refine a_iconst (v := (nI 0)) rfl rfl rfl ?_
  refine a_bipush (v := (nI 15)) rfl rfl rfl ?_
  refine a_statI rfl rfl (r_isIn0 v 0 15 (by omega) (by omega)) (Nat.le_of_ble_eq_true rfl) ⟨rfl, rfl, rfl⟩ rfl rfl rfl (Nat.le_of_ble_eq_true rfl) rfl ?_
  refine a_ifb_eq rfl rfl rfl (fun c_29 => by first | exact absurd c_29 (not_not_intro hv) | exact absurd (not_not_intro hv) c_29) (fun _ => ?_)
  refine a_aload_0 rfl rfl ?_
  refine a_getr rfl rfl rfl (fun _ _ _ => rfl) rfl ?_
  refine a_iload_2 rfl rfl ?_
  refine a_iald rfl rfl (Or.inl rfl) rfl (by omega) (by decide) ?_
  refine a_as (y := nI (k)) hk ?_
  refine a_iload_2 rfl rfl ?_
  refine a_iconst (v := (nI 4)) rfl rfl rfl ?_
  refine a_cmpN_eq rfl rfl rfl (by omega) (by omega) (fun c_40 => absurd c_40 (by decide)) (fun _ => ?_)
  refine a_iload_2 rfl rfl ?_
  refine a_iconst (v := (nI 5)) rfl rfl rfl ?_
  refine a_cmpN_ne rfl rfl rfl (by omega) (by omega) (fun c_45 => absurd c_45 (by decide)) (fun _ => ?_)
  refine a_bipush (v := (nI 6)) rfl rfl rfl ?_
  refine a_goto rfl rfl ?_
  refine a_cmpN_ne rfl rfl rfl (by omega) (by omega) (fun _ => ?_) (fun c_55 => False.elim (by omega))
  refine a_aload_0 rfl rfl ?_
  refine a_getr rfl rfl rfl (fun _ _ _ => rfl) rfl ?_
  refine a_iload_1 rfl rfl ?_
  refine a_iconst (v := (nI 2)) rfl rfl rfl ?_
  refine a_aload_0 rfl rfl ?_
  refine a_getr rfl rfl rfl (fun _ _ _ => rfl) rfl ?_
  refine a_iload_2 rfl rfl ?_
  refine a_iald rfl rfl (Or.inl rfl) rfl (by omega) (by decide) ?_
  refine a_as (y := nI (k)) hk ?_
  refine a_imulN rfl rfl ?_
  refine a_iaddN rfl rfl ?_
  refine a_iload_3 rfl rfl ?_
  refine a_iast rfl rfl rfl rfl (by omega) (by decide) ?_
  refine a_aload_0 rfl rfl ?_
  refine a_getr rfl rfl rfl (fun _ _ _ => rfl) rfl ?_
  refine a_iload_1 rfl rfl ?_
  refine a_iconst (v := (nI 2)) rfl rfl rfl ?_
  refine a_aload_0 rfl rfl ?_
  refine a_getr rfl rfl rfl (fun _ _ _ => rfl) rfl ?_
  refine a_iload_2 rfl rfl ?_
  refine a_iald rfl rfl (Or.inl rfl) rfl (by omega) (by decide) ?_
  refine a_as (y := nI (k)) e1 ?_
  refine a_imulN rfl rfl ?_
  refine a_iaddN rfl rfl ?_
  refine a_iconst (v := (nI 1)) rfl rfl rfl ?_
  refine a_iaddN rfl rfl ?_
  refine a_iload_4 rfl rfl ?_
  refine a_iast rfl rfl rfl rfl (by omega) (by decide) ?_
  refine a_aload_0 rfl rfl ?_
  refine a_getr rfl rfl rfl (fun _ _ _ => rfl) rfl ?_
  refine a_iload_2 rfl rfl ?_
  refine a_dup2 rfl rfl rfl ?_
  refine a_iald rfl rfl (Or.inl rfl) rfl (by omega) (by decide) ?_
  refine a_as (y := nI (k)) e2 ?_
  refine a_iconst (v := (nI 1)) rfl rfl rfl ?_
  refine a_iaddN rfl rfl ?_
  refine a_iast rfl rfl rfl rfl (by omega) (by decide) ?_
  refine a_aload_0 rfl rfl ?_
  refine a_getr rfl rfl rfl (fun _ _ _ => rfl) rfl ?_
  refine a_iload_2 rfl rfl ?_
  refine a_iald rfl rfl (Or.inl rfl) rfl (by omega) (by decide) ?_
  exact a_iret rfl rfl
theorem r_behind_F_23 (c v : Int32) (k : Nat) (hc : ¬ c = -1) (hk : h 82 5 = nI k) (hk6 : k ≤ 6) (hv : ¬ prP c v k 6) : avE 2 295 [.ref 81, .int (nI 110), .int (nI 5), .int c, .int v] (sX L t lt rt rp sw h gl) (some (.int (-2)), sX L t lt rt rp sw h gl) := by
  show avA _ 295 0 [.ref 81, .int (nI 110), .int (nI 5), .int (c), .int (v)] [] _ _
  refine a_iload_3 rfl rfl ?_
  refine a_iconst (v := (-1)) rfl rfl rfl ?_
  refine a_cmp_ne rfl rfl rfl (fun _ => ?_) (fun c_2 => by first | exact absurd hc c_2 | exact absurd c_2 hc)
  refine a_iload_3 rfl rfl ?_
  refine a_statI rfl rfl (r_isCell c) (Nat.le_of_ble_eq_true rfl) ⟨rfl, rfl, rfl⟩ rfl rfl rfl (Nat.le_of_ble_eq_true rfl) rfl ?_
  refine a_ifb_eq rfl rfl rfl (fun c_18 => ?_) (fun c_18 => ?_)
  · refine a_bipush (v := (-2)) rfl rfl rfl ?_
    exact a_iret rfl rfl
  · refine a_iload_4 rfl rfl ?_
    refine a_iconst (v := (nI 0)) rfl rfl rfl ?_
    refine a_bipush (v := (nI 15)) rfl rfl rfl ?_
    refine a_statI rfl rfl (r_isIn0 v 0 15 (by omega) (by omega)) (Nat.le_of_ble_eq_true rfl) ⟨rfl, rfl, rfl⟩ rfl rfl rfl (Nat.le_of_ble_eq_true rfl) rfl ?_
    refine a_ifb_eq rfl rfl rfl (fun c_29 => ?_) (fun c_29 => ?_)
    · refine a_bipush (v := (-2)) rfl rfl rfl ?_
      exact a_iret rfl rfl
    · refine a_aload_0 rfl rfl ?_
      refine a_getr rfl rfl rfl (fun _ _ _ => rfl) rfl ?_
      refine a_iload_2 rfl rfl ?_
      refine a_iald rfl rfl (Or.inl rfl) rfl (by omega) (by decide) ?_
      refine a_as (y := nI (k)) hk ?_
      refine a_iload_2 rfl rfl ?_
      refine a_iconst (v := (nI 4)) rfl rfl rfl ?_
      refine a_cmpN_eq rfl rfl rfl (by omega) (by omega) (fun c_40 => absurd c_40 (by decide)) (fun _ => ?_)
      refine a_iload_2 rfl rfl ?_
      refine a_iconst (v := (nI 5)) rfl rfl rfl ?_
      refine a_cmpN_ne rfl rfl rfl (by omega) (by omega) (fun c_45 => absurd c_45 (by decide)) (fun _ => ?_)
      refine a_bipush (v := (nI 6)) rfl rfl rfl ?_
      refine a_goto rfl rfl ?_
      refine a_cmpN_ne rfl rfl rfl (by omega) (by omega) (fun c_55 => False.elim (hv ⟨c_18, c_29, Nat.lt_of_le_of_ne hk6 c_55⟩)) (fun _ => ?_)
      refine a_bipush (v := (-2)) rfl rfl rfl ?_
      exact a_iret rfl rfl
theorem r_behind_Z_26 (v : Int32) : avE 2 295 [.ref 81, .int (nI 122), .int (nI 6), .int (-1), .int v] (sX L t lt rt rp sw h gl) (some (.int (nI 0)), sX L t lt rt rp sw (mvPut h 82 6 (nI 0)) gl) := by
  show avA _ 295 0 [.ref 81, .int (nI 122), .int (nI 6), .int (-1), .int (v)] [] _ _
  refine a_iload_3 rfl rfl ?_
  refine a_iconst (v := (-1)) rfl rfl rfl ?_
  refine a_cmp_ne rfl rfl rfl (fun c_2 => by first | exact absurd c_2 (not_not_intro rfl) | exact absurd (not_not_intro rfl) c_2) (fun _ => ?_)
  refine a_aload_0 rfl rfl ?_
  refine a_getr rfl rfl rfl (fun _ _ _ => rfl) rfl ?_
  refine a_iload_2 rfl rfl ?_
  refine a_iconst (v := (nI 0)) rfl rfl rfl ?_
  refine a_iast rfl rfl rfl rfl (by omega) (by decide) ?_
  refine a_iconst (v := (nI 0)) rfl rfl rfl ?_
  exact a_iret rfl rfl
theorem r_behind_T_26 (n k : Nat) (v : Int32) (hn : n < 30) (hv : 0 ≤ v.toInt ∧ v.toInt ≤ 15) (hk : h 82 6 = nI k) (hk6 : k < 8) : avE 2 295 [.ref 81, .int (nI 122), .int (nI 6), .int (nI n), .int v] (sX L t lt rt rp sw h gl) (some (.int (nI (k + 1))), sX L t lt rt rp sw (mvPut (mvPut (mvPut h 82 (122 + 2 * k) (nI n)) 82 (122 + 2 * k + 1) v) 82 6 (nI (k + 1))) gl) := by
  have e1 : (mvPut h 82 (122 + 2 * k) (nI n)) 82 6 = nI k := by
    show va_up (h 82) (122 + 2 * k) (nI n) 6 = nI k
    rw [va_up_ne _ _ (by omega)]
    exact hk
  have e2 : (mvPut (mvPut h 82 (122 + 2 * k) (nI n)) 82 (122 + 2 * k + 1) v) 82 6 = nI k := by
    show va_up ((mvPut h 82 (122 + 2 * k) (nI n)) 82) (122 + 2 * k + 1) v 6 = nI k
    rw [va_up_ne _ _ (by omega)]
    exact e1
  show avA _ 295 0 [.ref 81, .int (nI 122), .int (nI 6), .int (nI (n)), .int (v)] [] _ _
  refine a_iload_3 rfl rfl ?_
  refine a_iconst (v := (-1)) rfl rfl rfl ?_
  refine a_cmp_ne rfl rfl rfl (fun _ => ?_) (fun c_2 => by first | exact absurd (nI_ne_m1 (by omega)) c_2 | exact absurd c_2 (nI_ne_m1 (by omega)))
  refine a_iload_3 rfl rfl ?_
  refine a_statI rfl rfl (r_isCell (nI n)) (Nat.le_of_ble_eq_true rfl) ⟨rfl, rfl, rfl⟩ rfl rfl rfl (Nat.le_of_ble_eq_true rfl) rfl ?_
  refine a_ifb_eq rfl rfl rfl (fun c_18 => by first | exact absurd c_18 (not_not_intro (inC_nI hn)) | exact absurd (not_not_intro (inC_nI hn)) c_18) (fun _ => ?_)
  refine a_iload_4 rfl rfl ?_
  refine a_iconst (v := (nI 0)) rfl rfl rfl ?_
  refine a_bipush (v := (nI 15)) rfl rfl rfl ?_
  refine a_statI rfl rfl (r_isIn0 v 0 15 (by omega) (by omega)) (Nat.le_of_ble_eq_true rfl) ⟨rfl, rfl, rfl⟩ rfl rfl rfl (Nat.le_of_ble_eq_true rfl) rfl ?_
  refine a_ifb_eq rfl rfl rfl (fun c_29 => by first | exact absurd c_29 (not_not_intro hv) | exact absurd (not_not_intro hv) c_29) (fun _ => ?_)
  refine a_aload_0 rfl rfl ?_
  refine a_getr rfl rfl rfl (fun _ _ _ => rfl) rfl ?_
  refine a_iload_2 rfl rfl ?_
  refine a_iald rfl rfl (Or.inl rfl) rfl (by omega) (by decide) ?_
  refine a_as (y := nI (k)) hk ?_
  refine a_iload_2 rfl rfl ?_
  refine a_iconst (v := (nI 4)) rfl rfl rfl ?_
  refine a_cmpN_eq rfl rfl rfl (by omega) (by omega) (fun c_40 => absurd c_40 (by decide)) (fun _ => ?_)
  refine a_iload_2 rfl rfl ?_
  refine a_iconst (v := (nI 5)) rfl rfl rfl ?_
  refine a_cmpN_ne rfl rfl rfl (by omega) (by omega) (fun _ => ?_) (fun c_45 => absurd c_45 (by decide))
  refine a_bipush (v := (nI 8)) rfl rfl rfl ?_
  refine a_cmpN_ne rfl rfl rfl (by omega) (by omega) (fun _ => ?_) (fun c_55 => False.elim (by omega))
  refine a_aload_0 rfl rfl ?_
  refine a_getr rfl rfl rfl (fun _ _ _ => rfl) rfl ?_
  refine a_iload_1 rfl rfl ?_
  refine a_iconst (v := (nI 2)) rfl rfl rfl ?_
  refine a_aload_0 rfl rfl ?_
  refine a_getr rfl rfl rfl (fun _ _ _ => rfl) rfl ?_
  refine a_iload_2 rfl rfl ?_
  refine a_iald rfl rfl (Or.inl rfl) rfl (by omega) (by decide) ?_
  refine a_as (y := nI (k)) hk ?_
  refine a_imulN rfl rfl ?_
  refine a_iaddN rfl rfl ?_
  refine a_iload_3 rfl rfl ?_
  refine a_iast rfl rfl rfl rfl (by omega) (by decide) ?_
  refine a_aload_0 rfl rfl ?_
  refine a_getr rfl rfl rfl (fun _ _ _ => rfl) rfl ?_
  refine a_iload_1 rfl rfl ?_
  refine a_iconst (v := (nI 2)) rfl rfl rfl ?_
  refine a_aload_0 rfl rfl ?_
  refine a_getr rfl rfl rfl (fun _ _ _ => rfl) rfl ?_
  refine a_iload_2 rfl rfl ?_
  refine a_iald rfl rfl (Or.inl rfl) rfl (by omega) (by decide) ?_
  refine a_as (y := nI (k)) e1 ?_
  refine a_imulN rfl rfl ?_
  refine a_iaddN rfl rfl ?_
  refine a_iconst (v := (nI 1)) rfl rfl rfl ?_
  refine a_iaddN rfl rfl ?_
  refine a_iload_4 rfl rfl ?_
  refine a_iast rfl rfl rfl rfl (by omega) (by decide) ?_
  refine a_aload_0 rfl rfl ?_
  refine a_getr rfl rfl rfl (fun _ _ _ => rfl) rfl ?_
  refine a_iload_2 rfl rfl ?_
  refine a_dup2 rfl rfl rfl ?_
  refine a_iald rfl rfl (Or.inl rfl) rfl (by omega) (by decide) ?_
  refine a_as (y := nI (k)) e2 ?_
  refine a_iconst (v := (nI 1)) rfl rfl rfl ?_
  refine a_iaddN rfl rfl ?_
  refine a_iast rfl rfl rfl rfl (by omega) (by decide) ?_
  refine a_aload_0 rfl rfl ?_
  refine a_getr rfl rfl rfl (fun _ _ _ => rfl) rfl ?_
  refine a_iload_2 rfl rfl ?_
  refine a_iald rfl rfl (Or.inl rfl) rfl (by omega) (by decide) ?_
  exact a_iret rfl rfl
theorem r_behind_F_26 (c v : Int32) (k : Nat) (hc : ¬ c = -1) (hk : h 82 6 = nI k) (hk6 : k ≤ 8) (hv : ¬ prP c v k 8) : avE 2 295 [.ref 81, .int (nI 122), .int (nI 6), .int c, .int v] (sX L t lt rt rp sw h gl) (some (.int (-2)), sX L t lt rt rp sw h gl) := by
  show avA _ 295 0 [.ref 81, .int (nI 122), .int (nI 6), .int (c), .int (v)] [] _ _
  refine a_iload_3 rfl rfl ?_
  refine a_iconst (v := (-1)) rfl rfl rfl ?_
  refine a_cmp_ne rfl rfl rfl (fun _ => ?_) (fun c_2 => by first | exact absurd hc c_2 | exact absurd c_2 hc)
  refine a_iload_3 rfl rfl ?_
  refine a_statI rfl rfl (r_isCell c) (Nat.le_of_ble_eq_true rfl) ⟨rfl, rfl, rfl⟩ rfl rfl rfl (Nat.le_of_ble_eq_true rfl) rfl ?_
  refine a_ifb_eq rfl rfl rfl (fun c_18 => ?_) (fun c_18 => ?_)
  · refine a_bipush (v := (-2)) rfl rfl rfl ?_
    exact a_iret rfl rfl
  · refine a_iload_4 rfl rfl ?_
    refine a_iconst (v := (nI 0)) rfl rfl rfl ?_
    refine a_bipush (v := (nI 15)) rfl rfl rfl ?_
    refine a_statI rfl rfl (r_isIn0 v 0 15 (by omega) (by omega)) (Nat.le_of_ble_eq_true rfl) ⟨rfl, rfl, rfl⟩ rfl rfl rfl (Nat.le_of_ble_eq_true rfl) rfl ?_
    refine a_ifb_eq rfl rfl rfl (fun c_29 => ?_) (fun c_29 => ?_)
    · refine a_bipush (v := (-2)) rfl rfl rfl ?_
      exact a_iret rfl rfl
    · refine a_aload_0 rfl rfl ?_
      refine a_getr rfl rfl rfl (fun _ _ _ => rfl) rfl ?_
      refine a_iload_2 rfl rfl ?_
      refine a_iald rfl rfl (Or.inl rfl) rfl (by omega) (by decide) ?_
      refine a_as (y := nI (k)) hk ?_
      refine a_iload_2 rfl rfl ?_
      refine a_iconst (v := (nI 4)) rfl rfl rfl ?_
      refine a_cmpN_eq rfl rfl rfl (by omega) (by omega) (fun c_40 => absurd c_40 (by decide)) (fun _ => ?_)
      refine a_iload_2 rfl rfl ?_
      refine a_iconst (v := (nI 5)) rfl rfl rfl ?_
      refine a_cmpN_ne rfl rfl rfl (by omega) (by omega) (fun _ => ?_) (fun c_45 => absurd c_45 (by decide))
      refine a_bipush (v := (nI 8)) rfl rfl rfl ?_
      refine a_cmpN_ne rfl rfl rfl (by omega) (by omega) (fun c_55 => False.elim (hv ⟨c_18, c_29, Nat.lt_of_le_of_ne hk6 c_55⟩)) (fun _ => ?_)
      refine a_bipush (v := (-2)) rfl rfl rfl ?_
      exact a_iret rfl rfl
theorem r_behind_Z_29 (v : Int32) : avE 2 295 [.ref 81, .int (nI 150), .int (nI 7), .int (-1), .int v] (sX L t lt rt rp sw h gl) (some (.int (nI 0)), sX L t lt rt rp sw (mvPut h 82 7 (nI 0)) gl) := by
  show avA _ 295 0 [.ref 81, .int (nI 150), .int (nI 7), .int (-1), .int (v)] [] _ _
  refine a_iload_3 rfl rfl ?_
  refine a_iconst (v := (-1)) rfl rfl rfl ?_
  refine a_cmp_ne rfl rfl rfl (fun c_2 => by first | exact absurd c_2 (not_not_intro rfl) | exact absurd (not_not_intro rfl) c_2) (fun _ => ?_)
  refine a_aload_0 rfl rfl ?_
  refine a_getr rfl rfl rfl (fun _ _ _ => rfl) rfl ?_
  refine a_iload_2 rfl rfl ?_
  refine a_iconst (v := (nI 0)) rfl rfl rfl ?_
  refine a_iast rfl rfl rfl rfl (by omega) (by decide) ?_
  refine a_iconst (v := (nI 0)) rfl rfl rfl ?_
  exact a_iret rfl rfl
theorem r_behind_T_29 (n k : Nat) (v : Int32) (hn : n < 30) (hv : 0 ≤ v.toInt ∧ v.toInt ≤ 15) (hk : h 82 7 = nI k) (hk6 : k < 8) : avE 2 295 [.ref 81, .int (nI 150), .int (nI 7), .int (nI n), .int v] (sX L t lt rt rp sw h gl) (some (.int (nI (k + 1))), sX L t lt rt rp sw (mvPut (mvPut (mvPut h 82 (150 + 2 * k) (nI n)) 82 (150 + 2 * k + 1) v) 82 7 (nI (k + 1))) gl) := by
  have e1 : (mvPut h 82 (150 + 2 * k) (nI n)) 82 7 = nI k := by
    show va_up (h 82) (150 + 2 * k) (nI n) 7 = nI k
    rw [va_up_ne _ _ (by omega)]
    exact hk
  have e2 : (mvPut (mvPut h 82 (150 + 2 * k) (nI n)) 82 (150 + 2 * k + 1) v) 82 7 = nI k := by
    show va_up ((mvPut h 82 (150 + 2 * k) (nI n)) 82) (150 + 2 * k + 1) v 7 = nI k
    rw [va_up_ne _ _ (by omega)]
    exact e1
  show avA _ 295 0 [.ref 81, .int (nI 150), .int (nI 7), .int (nI (n)), .int (v)] [] _ _
  refine a_iload_3 rfl rfl ?_
  refine a_iconst (v := (-1)) rfl rfl rfl ?_
  refine a_cmp_ne rfl rfl rfl (fun _ => ?_) (fun c_2 => by first | exact absurd (nI_ne_m1 (by omega)) c_2 | exact absurd c_2 (nI_ne_m1 (by omega)))
  refine a_iload_3 rfl rfl ?_
  refine a_statI rfl rfl (r_isCell (nI n)) (Nat.le_of_ble_eq_true rfl) ⟨rfl, rfl, rfl⟩ rfl rfl rfl (Nat.le_of_ble_eq_true rfl) rfl ?_
  refine a_ifb_eq rfl rfl rfl (fun c_18 => by first | exact absurd c_18 (not_not_intro (inC_nI hn)) | exact absurd (not_not_intro (inC_nI hn)) c_18) (fun _ => ?_)
  refine a_iload_4 rfl rfl ?_
  refine a_iconst (v := (nI 0)) rfl rfl rfl ?_
  refine a_bipush (v := (nI 15)) rfl rfl rfl ?_
  refine a_statI rfl rfl (r_isIn0 v 0 15 (by omega) (by omega)) (Nat.le_of_ble_eq_true rfl) ⟨rfl, rfl, rfl⟩ rfl rfl rfl (Nat.le_of_ble_eq_true rfl) rfl ?_
  refine a_ifb_eq rfl rfl rfl (fun c_29 => by first | exact absurd c_29 (not_not_intro hv) | exact absurd (not_not_intro hv) c_29) (fun _ => ?_)
  refine a_aload_0 rfl rfl ?_
  refine a_getr rfl rfl rfl (fun _ _ _ => rfl) rfl ?_
  refine a_iload_2 rfl rfl ?_
  refine a_iald rfl rfl (Or.inl rfl) rfl (by omega) (by decide) ?_
  refine a_as (y := nI (k)) hk ?_
  refine a_iload_2 rfl rfl ?_
  refine a_iconst (v := (nI 4)) rfl rfl rfl ?_
  refine a_cmpN_eq rfl rfl rfl (by omega) (by omega) (fun c_40 => absurd c_40 (by decide)) (fun _ => ?_)
  refine a_iload_2 rfl rfl ?_
  refine a_iconst (v := (nI 5)) rfl rfl rfl ?_
  refine a_cmpN_ne rfl rfl rfl (by omega) (by omega) (fun _ => ?_) (fun c_45 => absurd c_45 (by decide))
  refine a_bipush (v := (nI 8)) rfl rfl rfl ?_
  refine a_cmpN_ne rfl rfl rfl (by omega) (by omega) (fun _ => ?_) (fun c_55 => False.elim (by omega))
  refine a_aload_0 rfl rfl ?_
  refine a_getr rfl rfl rfl (fun _ _ _ => rfl) rfl ?_
  refine a_iload_1 rfl rfl ?_
  refine a_iconst (v := (nI 2)) rfl rfl rfl ?_
  refine a_aload_0 rfl rfl ?_
  refine a_getr rfl rfl rfl (fun _ _ _ => rfl) rfl ?_
  refine a_iload_2 rfl rfl ?_
  refine a_iald rfl rfl (Or.inl rfl) rfl (by omega) (by decide) ?_
  refine a_as (y := nI (k)) hk ?_
  refine a_imulN rfl rfl ?_
  refine a_iaddN rfl rfl ?_
  refine a_iload_3 rfl rfl ?_
  refine a_iast rfl rfl rfl rfl (by omega) (by decide) ?_
  refine a_aload_0 rfl rfl ?_
  refine a_getr rfl rfl rfl (fun _ _ _ => rfl) rfl ?_
  refine a_iload_1 rfl rfl ?_
  refine a_iconst (v := (nI 2)) rfl rfl rfl ?_
  refine a_aload_0 rfl rfl ?_
  refine a_getr rfl rfl rfl (fun _ _ _ => rfl) rfl ?_
  refine a_iload_2 rfl rfl ?_
  refine a_iald rfl rfl (Or.inl rfl) rfl (by omega) (by decide) ?_
  refine a_as (y := nI (k)) e1 ?_
  refine a_imulN rfl rfl ?_
  refine a_iaddN rfl rfl ?_
  refine a_iconst (v := (nI 1)) rfl rfl rfl ?_
  refine a_iaddN rfl rfl ?_
  refine a_iload_4 rfl rfl ?_
  refine a_iast rfl rfl rfl rfl (by omega) (by decide) ?_
  refine a_aload_0 rfl rfl ?_
  refine a_getr rfl rfl rfl (fun _ _ _ => rfl) rfl ?_
  refine a_iload_2 rfl rfl ?_
  refine a_dup2 rfl rfl rfl ?_
  refine a_iald rfl rfl (Or.inl rfl) rfl (by omega) (by decide) ?_
  refine a_as (y := nI (k)) e2 ?_
  refine a_iconst (v := (nI 1)) rfl rfl rfl ?_
  refine a_iaddN rfl rfl ?_
  refine a_iast rfl rfl rfl rfl (by omega) (by decide) ?_
  refine a_aload_0 rfl rfl ?_
  refine a_getr rfl rfl rfl (fun _ _ _ => rfl) rfl ?_
  refine a_iload_2 rfl rfl ?_
  refine a_iald rfl rfl (Or.inl rfl) rfl (by omega) (by decide) ?_
  exact a_iret rfl rfl
theorem r_behind_F_29 (c v : Int32) (k : Nat) (hc : ¬ c = -1) (hk : h 82 7 = nI k) (hk6 : k ≤ 8) (hv : ¬ prP c v k 8) : avE 2 295 [.ref 81, .int (nI 150), .int (nI 7), .int c, .int v] (sX L t lt rt rp sw h gl) (some (.int (-2)), sX L t lt rt rp sw h gl) := by
  show avA _ 295 0 [.ref 81, .int (nI 150), .int (nI 7), .int (c), .int (v)] [] _ _
  refine a_iload_3 rfl rfl ?_
  refine a_iconst (v := (-1)) rfl rfl rfl ?_
  refine a_cmp_ne rfl rfl rfl (fun _ => ?_) (fun c_2 => by first | exact absurd hc c_2 | exact absurd c_2 hc)
  refine a_iload_3 rfl rfl ?_
  refine a_statI rfl rfl (r_isCell c) (Nat.le_of_ble_eq_true rfl) ⟨rfl, rfl, rfl⟩ rfl rfl rfl (Nat.le_of_ble_eq_true rfl) rfl ?_
  refine a_ifb_eq rfl rfl rfl (fun c_18 => ?_) (fun c_18 => ?_)
  · refine a_bipush (v := (-2)) rfl rfl rfl ?_
    exact a_iret rfl rfl
  · refine a_iload_4 rfl rfl ?_
    refine a_iconst (v := (nI 0)) rfl rfl rfl ?_
    refine a_bipush (v := (nI 15)) rfl rfl rfl ?_
    refine a_statI rfl rfl (r_isIn0 v 0 15 (by omega) (by omega)) (Nat.le_of_ble_eq_true rfl) ⟨rfl, rfl, rfl⟩ rfl rfl rfl (Nat.le_of_ble_eq_true rfl) rfl ?_
    refine a_ifb_eq rfl rfl rfl (fun c_29 => ?_) (fun c_29 => ?_)
    · refine a_bipush (v := (-2)) rfl rfl rfl ?_
      exact a_iret rfl rfl
    · refine a_aload_0 rfl rfl ?_
      refine a_getr rfl rfl rfl (fun _ _ _ => rfl) rfl ?_
      refine a_iload_2 rfl rfl ?_
      refine a_iald rfl rfl (Or.inl rfl) rfl (by omega) (by decide) ?_
      refine a_as (y := nI (k)) hk ?_
      refine a_iload_2 rfl rfl ?_
      refine a_iconst (v := (nI 4)) rfl rfl rfl ?_
      refine a_cmpN_eq rfl rfl rfl (by omega) (by omega) (fun c_40 => absurd c_40 (by decide)) (fun _ => ?_)
      refine a_iload_2 rfl rfl ?_
      refine a_iconst (v := (nI 5)) rfl rfl rfl ?_
      refine a_cmpN_ne rfl rfl rfl (by omega) (by omega) (fun _ => ?_) (fun c_45 => absurd c_45 (by decide))
      refine a_bipush (v := (nI 8)) rfl rfl rfl ?_
      refine a_cmpN_ne rfl rfl rfl (by omega) (by omega) (fun c_55 => False.elim (hv ⟨c_18, c_29, Nat.lt_of_le_of_ne hk6 c_55⟩)) (fun _ => ?_)
      refine a_bipush (v := (-2)) rfl rfl rfl ?_
      exact a_iret rfl rfl
/-! the tape: four bytes of an int -/
def byt (v : Int32) (j : Nat) : Int32 := (v >>> (nI (24 - 8 * j) &&& 31)) &&& nI 255
theorem rw2_4 (k : Nat) (X F : Nat → Int32) : rw2 k 4 X F = va_up (va_up (va_up (va_up F k (X 0)) (k + 1) (X 1)) (k + 2) (X 2)) (k + 3) (X 3) := by
  rw [← rw2_s k 3 X F rfl, ← rw2_s k 2 X F rfl, ← rw2_s k 1 X F rfl, ← rw2_s k 0 X F rfl, rw2_0]
  rfl
theorem put_row {h : Nat → Nat → Int32} {o k p j : Nat} {v w : Int32} (hop : o ≠ p) : mvPut (mvPut h o k v) p j w = mvPut (mvPut h p j w) o k v := by
  funext x
  unfold mvPut va_up
  by_cases a : x = o
  · by_cases b : x = p
    · exact absurd (a.symm.trans b) hop
    · simp [a, hop]
  · by_cases b : x = p
    · subst b; simp [a, Ne.symm hop]
    · simp [a, b]
theorem put_put {h : Nat → Nat → Int32} {o k : Nat} {v w : Int32} : mvPut (mvPut h o k v) o k w = mvPut h o k w := by
  unfold mvPut
  rw [va_up_self, bx_uu, bx_uu]
theorem put_rows {h : Nat → Nat → Int32} {o k j : Nat} {v w : Int32} : mvPut (mvPut h o k v) o j w = va_up h o (va_up (va_up (h o) k v) j w) := by
  unfold mvPut
  rw [va_up_self, bx_uu]
theorem four_row {h : Nat → Nat → Int32} {o q f k : Nat} {a0 a1 a2 a3 : Int32} (X : Nat → Int32) (hoq : o ≠ q) (h0 : a0 = X 0) (h1 : a1 = X 1) (h2 : a2 = X 2) (h3 : a3 = X 3) (n1 n2 n3 n4 : Int32) : mvPut (mvPut (mvPut (mvPut (mvPut (mvPut (mvPut (mvPut h o k a0) q f n1) o (k + 1) a1) q f n2) o (k + 2) a2) q f n3) o (k + 3) a3) q f n4 = mvPut (va_up h o (rw2 k 4 X (h o))) q f n4 := by
  subst h0 h1 h2 h3
  have hqo := Ne.symm hoq
  funext x
  by_cases c : x = o
  · subst c
    simp only [mvPut, va_up_self, va_up_ne _ _ hoq, va_up_ne _ _ hqo]
    rw [rw2_4]
  · by_cases d : x = q
    · subst d
      simp only [mvPut, va_up_self, va_up_ne _ _ hoq, va_up_ne _ _ hqo, bx_uu]
    · simp only [mvPut, va_up_ne _ _ c, va_up_ne _ _ d]
theorem e_addFour (v : Int32) (k : Nat) (hk : k + 4 ≤ 300) (h1 : h 68 1 = nI k) : avE 0 34 [.ref 68, .int v] (sX L t lt rt rp sw h gl) (none, sX L t lt rt rp sw (mvPut (va_up h 69 (rw2 k 4 (byt v) (h 69))) 68 1 (nI (k + 4))) gl) := by
  rw [← four_row (o := 69) (q := 68) (f := 1) (byt v) (by decide) rfl rfl rfl rfl (nI (k + 1)) (nI (k + 2)) (nI (k + 3)) (nI (k + 4))]
  show avA _ 34 0 [.ref 68, .int (v), mvU] [] _ _
  refine a_bipush (v := (nI 24)) rfl rfl rfl ?_
  refine a_istore_2 rfl rfl rfl ?_
  refine a_iload_2 rfl rfl ?_
  refine a_ifN_lt rfl rfl rfl (by omega) (fun c_4 => absurd c_4 (by decide)) (fun _ => ?_)
  refine a_aload_0 rfl rfl ?_
  refine a_geti rfl rfl rfl (fun _ _ _ => rfl) ?_
  refine a_as (y := nI (_)) (by first | exact h1 | exact rfl) ?_
  refine a_sipush (v := (nI 300)) rfl rfl rfl ?_
  refine a_cmpN_ge rfl rfl rfl (by omega) (by omega) (fun c_14 => False.elim (by omega)) (fun _ => ?_)
  refine a_aload_0 rfl rfl ?_
  refine a_getr rfl rfl rfl (fun _ _ _ => rfl) rfl ?_
  refine a_aload_0 rfl rfl ?_
  refine a_geti rfl rfl rfl (fun _ _ _ => rfl) ?_
  refine a_as (y := nI (_)) (by first | exact h1 | exact rfl) ?_
  refine a_iload_1 rfl rfl ?_
  refine a_iload_2 rfl rfl ?_
  refine a_ishr rfl rfl ?_
  refine a_sipush (v := (nI 255)) rfl rfl rfl ?_
  refine a_iand rfl rfl ?_
  refine a_iast rfl rfl rfl rfl (by omega) (by decide) ?_
  refine a_aload_0 rfl rfl ?_
  refine a_dup rfl rfl rfl ?_
  refine a_geti rfl rfl rfl (fun _ _ _ => rfl) ?_
  refine a_as (y := nI (_)) (by first | exact h1 | exact rfl) ?_
  refine a_iconst (v := (nI 1)) rfl rfl rfl ?_
  refine a_iaddN rfl rfl ?_
  refine a_puti rfl rfl rfl rfl ?_
  refine a_iinc_2 (v := (nI 16)) rfl rfl (by decide) rfl ?_
  refine a_goto rfl rfl ?_
  refine a_iload_2 rfl rfl ?_
  refine a_ifN_lt rfl rfl rfl (by omega) (fun c_4 => absurd c_4 (by decide)) (fun _ => ?_)
  refine a_aload_0 rfl rfl ?_
  refine a_geti rfl rfl rfl (fun _ _ _ => rfl) ?_
  refine a_as (y := nI (_)) (by first | exact h1 | exact rfl) ?_
  refine a_sipush (v := (nI 300)) rfl rfl rfl ?_
  refine a_cmpN_ge rfl rfl rfl (by omega) (by omega) (fun c_14 => False.elim (by omega)) (fun _ => ?_)
  refine a_aload_0 rfl rfl ?_
  refine a_getr rfl rfl rfl (fun _ _ _ => rfl) rfl ?_
  refine a_aload_0 rfl rfl ?_
  refine a_geti rfl rfl rfl (fun _ _ _ => rfl) ?_
  refine a_as (y := nI (_)) (by first | exact h1 | exact rfl) ?_
  refine a_iload_1 rfl rfl ?_
  refine a_iload_2 rfl rfl ?_
  refine a_ishr rfl rfl ?_
  refine a_sipush (v := (nI 255)) rfl rfl rfl ?_
  refine a_iand rfl rfl ?_
  refine a_iast rfl rfl rfl rfl (by omega) (by decide) ?_
  refine a_aload_0 rfl rfl ?_
  refine a_dup rfl rfl rfl ?_
  refine a_geti rfl rfl rfl (fun _ _ _ => rfl) ?_
  refine a_as (y := nI (_)) (by first | exact h1 | exact rfl) ?_
  refine a_iconst (v := (nI 1)) rfl rfl rfl ?_
  refine a_iaddN rfl rfl ?_
  refine a_puti rfl rfl rfl rfl ?_
  refine a_iinc_2 (v := (nI 8)) rfl rfl (by decide) rfl ?_
  refine a_goto rfl rfl ?_
  refine a_iload_2 rfl rfl ?_
  refine a_ifN_lt rfl rfl rfl (by omega) (fun c_4 => absurd c_4 (by decide)) (fun _ => ?_)
  refine a_aload_0 rfl rfl ?_
  refine a_geti rfl rfl rfl (fun _ _ _ => rfl) ?_
  refine a_as (y := nI (_)) (by first | exact h1 | exact rfl) ?_
  refine a_sipush (v := (nI 300)) rfl rfl rfl ?_
  refine a_cmpN_ge rfl rfl rfl (by omega) (by omega) (fun c_14 => False.elim (by omega)) (fun _ => ?_)
  refine a_aload_0 rfl rfl ?_
  refine a_getr rfl rfl rfl (fun _ _ _ => rfl) rfl ?_
  refine a_aload_0 rfl rfl ?_
  refine a_geti rfl rfl rfl (fun _ _ _ => rfl) ?_
  refine a_as (y := nI (_)) (by first | exact h1 | exact rfl) ?_
  refine a_iload_1 rfl rfl ?_
  refine a_iload_2 rfl rfl ?_
  refine a_ishr rfl rfl ?_
  refine a_sipush (v := (nI 255)) rfl rfl rfl ?_
  refine a_iand rfl rfl ?_
  refine a_iast rfl rfl rfl rfl (by omega) (by decide) ?_
  refine a_aload_0 rfl rfl ?_
  refine a_dup rfl rfl rfl ?_
  refine a_geti rfl rfl rfl (fun _ _ _ => rfl) ?_
  refine a_as (y := nI (_)) (by first | exact h1 | exact rfl) ?_
  refine a_iconst (v := (nI 1)) rfl rfl rfl ?_
  refine a_iaddN rfl rfl ?_
  refine a_puti rfl rfl rfl rfl ?_
  refine a_iinc_2 (v := (nI 0)) rfl rfl (by decide) rfl ?_
  refine a_goto rfl rfl ?_
  refine a_iload_2 rfl rfl ?_
  refine a_ifN_lt rfl rfl rfl (by omega) (fun c_4 => absurd c_4 (by decide)) (fun _ => ?_)
  refine a_aload_0 rfl rfl ?_
  refine a_geti rfl rfl rfl (fun _ _ _ => rfl) ?_
  refine a_as (y := nI (_)) (by first | exact h1 | exact rfl) ?_
  refine a_sipush (v := (nI 300)) rfl rfl rfl ?_
  refine a_cmpN_ge rfl rfl rfl (by omega) (by omega) (fun c_14 => False.elim (by omega)) (fun _ => ?_)
  refine a_aload_0 rfl rfl ?_
  refine a_getr rfl rfl rfl (fun _ _ _ => rfl) rfl ?_
  refine a_aload_0 rfl rfl ?_
  refine a_geti rfl rfl rfl (fun _ _ _ => rfl) ?_
  refine a_as (y := nI (_)) (by first | exact h1 | exact rfl) ?_
  refine a_iload_1 rfl rfl ?_
  refine a_iload_2 rfl rfl ?_
  refine a_ishr rfl rfl ?_
  refine a_sipush (v := (nI 255)) rfl rfl rfl ?_
  refine a_iand rfl rfl ?_
  refine a_iast rfl rfl rfl rfl (by omega) (by decide) ?_
  refine a_aload_0 rfl rfl ?_
  refine a_dup rfl rfl rfl ?_
  refine a_geti rfl rfl rfl (fun _ _ _ => rfl) ?_
  refine a_as (y := nI (_)) (by first | exact h1 | exact rfl) ?_
  refine a_iconst (v := (nI 1)) rfl rfl rfl ?_
  refine a_iaddN rfl rfl ?_
  refine a_puti rfl rfl rfl rfl ?_
  refine a_iinc_2 (v := (-8)) rfl rfl (by decide) rfl ?_
  refine a_goto rfl rfl ?_
  refine a_iload_2 rfl rfl ?_
  refine a_ifI_lt rfl rfl rfl (show (-8 : Int32).toInt = -8 from by decide) (fun _ => ?_) (fun c_4 => absurd c_4 (by decide))
  exact a_vret rfl rfl
theorem r_four (v : Int32) (k : Nat) (hk : k + 4 ≤ 300) (h1 : h 81 4 = nI k) : avE 0 194 [.ref 81, .int v] (sX L t lt rt rp sw h gl) (none, sX L t lt rt rp sw (mvPut (va_up h 85 (rw2 k 4 (byt v) (h 85))) 81 4 (nI (k + 4))) gl) := by
  rw [← four_row (o := 85) (q := 81) (f := 4) (byt v) (by decide) rfl rfl rfl rfl (nI (k + 1)) (nI (k + 2)) (nI (k + 3)) (nI (k + 4))]
  show avA _ 194 0 [.ref 81, .int (v), mvU] [] _ _
  refine a_bipush (v := (nI 24)) rfl rfl rfl ?_
  refine a_istore_2 rfl rfl rfl ?_
  refine a_iload_2 rfl rfl ?_
  refine a_ifN_lt rfl rfl rfl (by omega) (fun c_4 => absurd c_4 (by decide)) (fun _ => ?_)
  refine a_aload_0 rfl rfl ?_
  refine a_getr rfl rfl rfl (fun _ _ _ => rfl) rfl ?_
  refine a_aload_0 rfl rfl ?_
  refine a_geti rfl rfl rfl (fun _ _ _ => rfl) ?_
  refine a_as (y := nI (_)) (by first | exact h1 | exact rfl) ?_
  refine a_iload_1 rfl rfl ?_
  refine a_iload_2 rfl rfl ?_
  refine a_ishr rfl rfl ?_
  refine a_sipush (v := (nI 255)) rfl rfl rfl ?_
  refine a_iand rfl rfl ?_
  refine a_iast rfl rfl rfl rfl (by omega) (by decide) ?_
  refine a_aload_0 rfl rfl ?_
  refine a_dup rfl rfl rfl ?_
  refine a_geti rfl rfl rfl (fun _ _ _ => rfl) ?_
  refine a_as (y := nI (_)) (by first | exact h1 | exact rfl) ?_
  refine a_iconst (v := (nI 1)) rfl rfl rfl ?_
  refine a_iaddN rfl rfl ?_
  refine a_puti rfl rfl rfl rfl ?_
  refine a_iinc_2 (v := (nI 16)) rfl rfl (by decide) rfl ?_
  refine a_goto rfl rfl ?_
  refine a_iload_2 rfl rfl ?_
  refine a_ifN_lt rfl rfl rfl (by omega) (fun c_4 => absurd c_4 (by decide)) (fun _ => ?_)
  refine a_aload_0 rfl rfl ?_
  refine a_getr rfl rfl rfl (fun _ _ _ => rfl) rfl ?_
  refine a_aload_0 rfl rfl ?_
  refine a_geti rfl rfl rfl (fun _ _ _ => rfl) ?_
  refine a_as (y := nI (_)) (by first | exact h1 | exact rfl) ?_
  refine a_iload_1 rfl rfl ?_
  refine a_iload_2 rfl rfl ?_
  refine a_ishr rfl rfl ?_
  refine a_sipush (v := (nI 255)) rfl rfl rfl ?_
  refine a_iand rfl rfl ?_
  refine a_iast rfl rfl rfl rfl (by omega) (by decide) ?_
  refine a_aload_0 rfl rfl ?_
  refine a_dup rfl rfl rfl ?_
  refine a_geti rfl rfl rfl (fun _ _ _ => rfl) ?_
  refine a_as (y := nI (_)) (by first | exact h1 | exact rfl) ?_
  refine a_iconst (v := (nI 1)) rfl rfl rfl ?_
  refine a_iaddN rfl rfl ?_
  refine a_puti rfl rfl rfl rfl ?_
  refine a_iinc_2 (v := (nI 8)) rfl rfl (by decide) rfl ?_
  refine a_goto rfl rfl ?_
  refine a_iload_2 rfl rfl ?_
  refine a_ifN_lt rfl rfl rfl (by omega) (fun c_4 => absurd c_4 (by decide)) (fun _ => ?_)
  refine a_aload_0 rfl rfl ?_
  refine a_getr rfl rfl rfl (fun _ _ _ => rfl) rfl ?_
  refine a_aload_0 rfl rfl ?_
  refine a_geti rfl rfl rfl (fun _ _ _ => rfl) ?_
  refine a_as (y := nI (_)) (by first | exact h1 | exact rfl) ?_
  refine a_iload_1 rfl rfl ?_
  refine a_iload_2 rfl rfl ?_
  refine a_ishr rfl rfl ?_
  refine a_sipush (v := (nI 255)) rfl rfl rfl ?_
  refine a_iand rfl rfl ?_
  refine a_iast rfl rfl rfl rfl (by omega) (by decide) ?_
  refine a_aload_0 rfl rfl ?_
  refine a_dup rfl rfl rfl ?_
  refine a_geti rfl rfl rfl (fun _ _ _ => rfl) ?_
  refine a_as (y := nI (_)) (by first | exact h1 | exact rfl) ?_
  refine a_iconst (v := (nI 1)) rfl rfl rfl ?_
  refine a_iaddN rfl rfl ?_
  refine a_puti rfl rfl rfl rfl ?_
  refine a_iinc_2 (v := (nI 0)) rfl rfl (by decide) rfl ?_
  refine a_goto rfl rfl ?_
  refine a_iload_2 rfl rfl ?_
  refine a_ifN_lt rfl rfl rfl (by omega) (fun c_4 => absurd c_4 (by decide)) (fun _ => ?_)
  refine a_aload_0 rfl rfl ?_
  refine a_getr rfl rfl rfl (fun _ _ _ => rfl) rfl ?_
  refine a_aload_0 rfl rfl ?_
  refine a_geti rfl rfl rfl (fun _ _ _ => rfl) ?_
  refine a_as (y := nI (_)) (by first | exact h1 | exact rfl) ?_
  refine a_iload_1 rfl rfl ?_
  refine a_iload_2 rfl rfl ?_
  refine a_ishr rfl rfl ?_
  refine a_sipush (v := (nI 255)) rfl rfl rfl ?_
  refine a_iand rfl rfl ?_
  refine a_iast rfl rfl rfl rfl (by omega) (by decide) ?_
  refine a_aload_0 rfl rfl ?_
  refine a_dup rfl rfl rfl ?_
  refine a_geti rfl rfl rfl (fun _ _ _ => rfl) ?_
  refine a_as (y := nI (_)) (by first | exact h1 | exact rfl) ?_
  refine a_iconst (v := (nI 1)) rfl rfl rfl ?_
  refine a_iaddN rfl rfl ?_
  refine a_puti rfl rfl rfl rfl ?_
  refine a_iinc_2 (v := (-8)) rfl rfl (by decide) rfl ?_
  refine a_goto rfl rfl ?_
  refine a_iload_2 rfl rfl ?_
  refine a_ifI_lt rfl rfl rfl (show (-8 : Int32).toInt = -8 from by decide) (fun _ => ?_) (fun c_4 => absurd c_4 (by decide))
  exact a_vret rfl rfl
/-- twenty bytes behind k -/
def fd5 (k : Nat) (a b c d e : Int32) (F : Nat → Int32) : Nat → Int32 := rw2 (k + 16) 4 (byt e) (rw2 (k + 12) 4 (byt d) (rw2 (k + 8) 4 (byt c) (rw2 (k + 4) 4 (byt b) (rw2 k 4 (byt a) F))))
theorem feed_row {h : Nat → Nat → Int32} {o q f k : Nat} (a b c d e : Int32) (hoq : o ≠ q) (n1 n2 n3 n4 n5 : Int32) : mvPut (va_up (mvPut (va_up (mvPut (va_up (mvPut (va_up (mvPut (va_up h o (rw2 k 4 (byt a) (h o))) q f n1) o (rw2 (k + 4) 4 (byt b) ((mvPut (va_up h o (rw2 k 4 (byt a) (h o))) q f n1) o))) q f n2) o (rw2 (k + 4 + 4) 4 (byt c) ((mvPut (va_up (mvPut (va_up h o (rw2 k 4 (byt a) (h o))) q f n1) o (rw2 (k + 4) 4 (byt b) ((mvPut (va_up h o (rw2 k 4 (byt a) (h o))) q f n1) o))) q f n2) o))) q f n3) o (rw2 (k + 4 + 4 + 4) 4 (byt d) ((mvPut (va_up (mvPut (va_up (mvPut (va_up h o (rw2 k 4 (byt a) (h o))) q f n1) o (rw2 (k + 4) 4 (byt b) ((mvPut (va_up h o (rw2 k 4 (byt a) (h o))) q f n1) o))) q f n2) o (rw2 (k + 4 + 4) 4 (byt c) ((mvPut (va_up (mvPut (va_up h o (rw2 k 4 (byt a) (h o))) q f n1) o (rw2 (k + 4) 4 (byt b) ((mvPut (va_up h o (rw2 k 4 (byt a) (h o))) q f n1) o))) q f n2) o))) q f n3) o))) q f n4) o (rw2 (k + 4 + 4 + 4 + 4) 4 (byt e) ((mvPut (va_up (mvPut (va_up (mvPut (va_up (mvPut (va_up h o (rw2 k 4 (byt a) (h o))) q f n1) o (rw2 (k + 4) 4 (byt b) ((mvPut (va_up h o (rw2 k 4 (byt a) (h o))) q f n1) o))) q f n2) o (rw2 (k + 4 + 4) 4 (byt c) ((mvPut (va_up (mvPut (va_up h o (rw2 k 4 (byt a) (h o))) q f n1) o (rw2 (k + 4) 4 (byt b) ((mvPut (va_up h o (rw2 k 4 (byt a) (h o))) q f n1) o))) q f n2) o))) q f n3) o (rw2 (k + 4 + 4 + 4) 4 (byt d) ((mvPut (va_up (mvPut (va_up (mvPut (va_up h o (rw2 k 4 (byt a) (h o))) q f n1) o (rw2 (k + 4) 4 (byt b) ((mvPut (va_up h o (rw2 k 4 (byt a) (h o))) q f n1) o))) q f n2) o (rw2 (k + 4 + 4) 4 (byt c) ((mvPut (va_up (mvPut (va_up h o (rw2 k 4 (byt a) (h o))) q f n1) o (rw2 (k + 4) 4 (byt b) ((mvPut (va_up h o (rw2 k 4 (byt a) (h o))) q f n1) o))) q f n2) o))) q f n3) o))) q f n4) o))) q f n5 = mvPut (va_up h o (fd5 k a b c d e (h o))) q f n5 := by
  have hqo := Ne.symm hoq
  funext x
  by_cases u : x = o
  · subst u
    simp only [mvPut, va_up_self, va_up_ne _ _ hoq, va_up_ne _ _ hqo]
    rfl
  · by_cases w : x = q
    · subst w
      simp only [mvPut, va_up_self, va_up_ne _ _ hoq, va_up_ne _ _ hqo, bx_uu]
    · simp only [mvPut, va_up_ne _ _ u, va_up_ne _ _ w]
theorem c_feed_T (a b c d e : Int32) (k : Nat) (hk : k + 20 ≤ 300) (h1 : h 68 1 = nI k) : avE 1 33 [.ref 7, .int a, .int b, .int c, .int d, .int e] (sX L t lt rt rp sw h gl) (some (.int (nI (k + 20))), sX L t lt rt rp sw (mvPut (va_up h 69 (fd5 k a b c d e (h 69))) 68 1 (nI (k + 20))) gl) := by
  show avA _ 33 0 [.ref 7, .int (a), .int (b), .int (c), .int (d), .int (e)] [] _ _
  refine a_aload_0 rfl rfl ?_
  refine a_getr rfl rfl rfl (fun _ _ _ => rfl) rfl ?_
  refine a_geti rfl rfl rfl (fun _ _ _ => rfl) ?_
  refine a_as (y := nI (k)) h1 ?_
  refine a_bipush (v := (nI 20)) rfl rfl rfl ?_
  refine a_iaddN rfl rfl ?_
  refine a_sipush (v := (nI 300)) rfl rfl rfl ?_
  refine a_cmpN_le rfl rfl rfl (by omega) (by omega) (fun _ => ?_) (fun c_13 => False.elim (by omega))
  refine a_aload_0 rfl rfl ?_
  refine a_getr rfl rfl rfl (fun _ _ _ => rfl) rfl ?_
  refine a_iload_1 rfl rfl ?_
  refine a_virt0 rfl rfl (e_addFour a k (by omega) h1) (Nat.le_of_ble_eq_true rfl) ⟨rfl, rfl, rfl, rfl⟩ rfl rfl rfl (Nat.le_of_ble_eq_true rfl) rfl rfl ?_
  refine a_aload_0 rfl rfl ?_
  refine a_getr rfl rfl rfl (fun _ _ _ => rfl) rfl ?_
  refine a_iload_2 rfl rfl ?_
  refine a_virt0 rfl rfl (e_addFour b (k + 4) (by omega) rfl) (Nat.le_of_ble_eq_true rfl) ⟨rfl, rfl, rfl, rfl⟩ rfl rfl rfl (Nat.le_of_ble_eq_true rfl) rfl rfl ?_
  refine a_aload_0 rfl rfl ?_
  refine a_getr rfl rfl rfl (fun _ _ _ => rfl) rfl ?_
  refine a_iload_3 rfl rfl ?_
  refine a_virt0 rfl rfl (e_addFour c (k + 4 + 4) (by omega) rfl) (Nat.le_of_ble_eq_true rfl) ⟨rfl, rfl, rfl, rfl⟩ rfl rfl rfl (Nat.le_of_ble_eq_true rfl) rfl rfl ?_
  refine a_aload_0 rfl rfl ?_
  refine a_getr rfl rfl rfl (fun _ _ _ => rfl) rfl ?_
  refine a_iload_4 rfl rfl ?_
  refine a_virt0 rfl rfl (e_addFour d (k + 4 + 4 + 4) (by omega) rfl) (Nat.le_of_ble_eq_true rfl) ⟨rfl, rfl, rfl, rfl⟩ rfl rfl rfl (Nat.le_of_ble_eq_true rfl) rfl rfl ?_
  refine a_aload_0 rfl rfl ?_
  refine a_getr rfl rfl rfl (fun _ _ _ => rfl) rfl ?_
  refine a_iload_5 rfl rfl ?_
  refine a_virt0 rfl rfl (e_addFour e (k + 4 + 4 + 4 + 4) (by omega) rfl) (Nat.le_of_ble_eq_true rfl) ⟨rfl, rfl, rfl, rfl⟩ rfl rfl rfl (Nat.le_of_ble_eq_true rfl) rfl rfl ?_
  refine a_aload_0 rfl rfl ?_
  refine a_getr rfl rfl rfl (fun _ _ _ => rfl) rfl ?_
  refine a_geti rfl rfl rfl (fun _ _ _ => rfl) ?_
  refine a_as (y := nI (k + 20)) rfl ?_
  refine av_to (a_iret rfl rfl) ?_
  exact congrArg (fun h' => (some (Value.int (nI (k + 20))), sX L t lt rt rp sw h' gl)) (feed_row a b c d e (by decide) _ _ _ _ _)
theorem c_feed_F (a b c d e : Int32) (k : Nat) (hk : k ≤ 300) (hk2 : ¬ k + 20 ≤ 300) (h1 : h 68 1 = nI k) : avE 1 33 [.ref 7, .int a, .int b, .int c, .int d, .int e] (sX L t lt rt rp sw h gl) (some (.int (-1)), sX L t lt rt rp sw h gl) := by
  show avA _ 33 0 [.ref 7, .int (a), .int (b), .int (c), .int (d), .int (e)] [] _ _
  refine a_aload_0 rfl rfl ?_
  refine a_getr rfl rfl rfl (fun _ _ _ => rfl) rfl ?_
  refine a_geti rfl rfl rfl (fun _ _ _ => rfl) ?_
  refine a_as (y := nI (k)) h1 ?_
  refine a_bipush (v := (nI 20)) rfl rfl rfl ?_
  refine a_iaddN rfl rfl ?_
  refine a_sipush (v := (nI 300)) rfl rfl rfl ?_
  refine a_cmpN_le rfl rfl rfl (by omega) (by omega) (fun c_13 => False.elim (by omega)) (fun _ => ?_)
  refine a_iconst (v := (-1)) rfl rfl rfl ?_
  exact a_iret rfl rfl
theorem r_feed_T (a b c d e : Int32) (k : Nat) (hk : k + 20 ≤ 300) (h1 : h 81 4 = nI k) : avE 1 193 [.ref 81, .int a, .int b, .int c, .int d, .int e] (sX L t lt rt rp sw h gl) (some (.int (nI (k + 20))), sX L t lt rt rp sw (mvPut (va_up h 85 (fd5 k a b c d e (h 85))) 81 4 (nI (k + 20))) gl) := by
  show avA _ 193 0 [.ref 81, .int (a), .int (b), .int (c), .int (d), .int (e)] [] _ _
  refine a_aload_0 rfl rfl ?_
  refine a_geti rfl rfl rfl (fun _ _ _ => rfl) ?_
  refine a_as (y := nI (k)) h1 ?_
  refine a_bipush (v := (nI 20)) rfl rfl rfl ?_
  refine a_iaddN rfl rfl ?_
  refine a_sipush (v := (nI 300)) rfl rfl rfl ?_
  refine a_cmpN_le rfl rfl rfl (by omega) (by omega) (fun _ => ?_) (fun c_10 => False.elim (by omega))
  refine a_aload_0 rfl rfl ?_
  refine a_iload_1 rfl rfl ?_
  refine a_virt0 rfl rfl (r_four a k (by omega) h1) (Nat.le_of_ble_eq_true rfl) ⟨rfl, rfl, rfl, rfl⟩ rfl rfl rfl (Nat.le_of_ble_eq_true rfl) rfl rfl ?_
  refine a_aload_0 rfl rfl ?_
  refine a_iload_2 rfl rfl ?_
  refine a_virt0 rfl rfl (r_four b (k + 4) (by omega) rfl) (Nat.le_of_ble_eq_true rfl) ⟨rfl, rfl, rfl, rfl⟩ rfl rfl rfl (Nat.le_of_ble_eq_true rfl) rfl rfl ?_
  refine a_aload_0 rfl rfl ?_
  refine a_iload_3 rfl rfl ?_
  refine a_virt0 rfl rfl (r_four c (k + 4 + 4) (by omega) rfl) (Nat.le_of_ble_eq_true rfl) ⟨rfl, rfl, rfl, rfl⟩ rfl rfl rfl (Nat.le_of_ble_eq_true rfl) rfl rfl ?_
  refine a_aload_0 rfl rfl ?_
  refine a_iload_4 rfl rfl ?_
  refine a_virt0 rfl rfl (r_four d (k + 4 + 4 + 4) (by omega) rfl) (Nat.le_of_ble_eq_true rfl) ⟨rfl, rfl, rfl, rfl⟩ rfl rfl rfl (Nat.le_of_ble_eq_true rfl) rfl rfl ?_
  refine a_aload_0 rfl rfl ?_
  refine a_iload_5 rfl rfl ?_
  refine a_virt0 rfl rfl (r_four e (k + 4 + 4 + 4 + 4) (by omega) rfl) (Nat.le_of_ble_eq_true rfl) ⟨rfl, rfl, rfl, rfl⟩ rfl rfl rfl (Nat.le_of_ble_eq_true rfl) rfl rfl ?_
  refine a_aload_0 rfl rfl ?_
  refine a_geti rfl rfl rfl (fun _ _ _ => rfl) ?_
  refine a_as (y := nI (k + 20)) rfl ?_
  refine av_to (a_iret rfl rfl) ?_
  exact congrArg (fun h' => (some (Value.int (nI (k + 20))), sX L t lt rt rp sw h' gl)) (feed_row a b c d e (by decide) _ _ _ _ _)
theorem r_feed_F (a b c d e : Int32) (k : Nat) (hk : k ≤ 300) (hk2 : ¬ k + 20 ≤ 300) (h1 : h 81 4 = nI k) : avE 1 193 [.ref 81, .int a, .int b, .int c, .int d, .int e] (sX L t lt rt rp sw h gl) (some (.int (-1)), sX L t lt rt rp sw h gl) := by
  show avA _ 193 0 [.ref 81, .int (a), .int (b), .int (c), .int (d), .int (e)] [] _ _
  refine a_aload_0 rfl rfl ?_
  refine a_geti rfl rfl rfl (fun _ _ _ => rfl) ?_
  refine a_as (y := nI (k)) h1 ?_
  refine a_bipush (v := (nI 20)) rfl rfl rfl ?_
  refine a_iaddN rfl rfl ?_
  refine a_sipush (v := (nI 300)) rfl rfl rfl ?_
  refine a_cmpN_le rfl rfl rfl (by omega) (by omega) (fun c_10 => False.elim (by omega)) (fun _ => ?_)
  refine a_iconst (v := (-1)) rfl rfl rfl ?_
  exact a_iret rfl rfl
end PA
