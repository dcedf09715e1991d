/-! THE REFERENCE'S PARSER: between, parts, behind, a whole sum -/
def oV (c : Nat) : Int32 := if c = 0 then -1 else nI c
theorem oV_n {c : Nat} (h : c ≠ 0) : oV c = nI c := if_neg h
section RG
variable {L t : Nat} {lt rt rp : Option Nat} {sw : Bool} {b : Nat → Nat} {k n x law i : Nat}
theorem ov_e {c j : Nat} {σ : mvSt} (h : c = j) (hj : j ≠ 0) : ((some (Value.int (nI j)), σ) : Option Value × mvSt) = (some (.int (oV c)), σ) := by
  subst h
  rw [oV_n hj]
theorem ov_0 {c : Nat} {σ : mvSt} (h : c = 0) : ((some (Value.int (-1)), σ) : Option Value × mvSt) = (some (.int (oV c)), σ) := by
  subst h
  rfl
theorem r_cmpOf {h : Nat → Nat → Int32} {gl : Nat → Nat → Int64} {c τ : Nat} (W : tW c h gl τ) : avE 0 224 [.ref 81] (sX L t lt rt rp sw h gl) (some (.int (oV (cmpO c))), sX L t lt rt rp sw h gl) := by
  obtain ⟨w1, w2, w3, _⟩ := W
  obtain ⟨_, _, _, _, _, _, _, _, _, _, _, f1, f2, f3, f4, f5, f6, _⟩ := TR_iff w3
  clear w3
  by_cases c1 : c = 32
  · have := f1.mpr c1
    subst c1
    show avA _ 224 0 [.ref 81] [] _ _
    refine a_aload_0 rfl rfl ?_
    refine a_geti rfl rfl rfl (fun _ _ _ => rfl) ?_
    refine a_as (y := nI (τ)) w1 ?_
    refine a_bipush (v := (nI 60)) rfl rfl rfl ?_
    refine a_cmpN_ne rfl rfl rfl (by omega) (by omega) (fun c_6 => False.elim (by omega)) (fun _ => ?_)
    refine a_bipush (v := (nI 10)) rfl rfl rfl ?_
    refine a_goto rfl rfl ?_
    exact a_iret rfl rfl
  by_cases c2 : c = 43
  · have := f2.mpr c2
    subst c2
    show avA _ 224 0 [.ref 81] [] _ _
    refine a_aload_0 rfl rfl ?_
    refine a_geti rfl rfl rfl (fun _ _ _ => rfl) ?_
    refine a_as (y := nI (τ)) w1 ?_
    refine a_bipush (v := (nI 60)) rfl rfl rfl ?_
    refine a_cmpN_ne rfl rfl rfl (by omega) (by omega) (fun _ => ?_) (fun c_6 => False.elim (by omega))
    refine a_aload_0 rfl rfl ?_
    refine a_geti rfl rfl rfl (fun _ _ _ => rfl) ?_
    refine a_as (y := nI (τ)) w1 ?_
    refine a_iconst (v := (nI 4)) rfl rfl rfl ?_
    refine a_cmpN_ne rfl rfl rfl (by omega) (by omega) (fun c_19 => False.elim (by omega)) (fun _ => ?_)
    refine a_bipush (v := (nI 11)) rfl rfl rfl ?_
    refine a_goto rfl rfl ?_
    exact a_iret rfl rfl
  by_cases c3 : c = 33
  · have := f3.mpr c3
    subst c3
    show avA _ 224 0 [.ref 81] [] _ _
    refine a_aload_0 rfl rfl ?_
    refine a_geti rfl rfl rfl (fun _ _ _ => rfl) ?_
    refine a_as (y := nI (τ)) w1 ?_
    refine a_bipush (v := (nI 60)) rfl rfl rfl ?_
    refine a_cmpN_ne rfl rfl rfl (by omega) (by omega) (fun _ => ?_) (fun c_6 => False.elim (by omega))
    refine a_aload_0 rfl rfl ?_
    refine a_geti rfl rfl rfl (fun _ _ _ => rfl) ?_
    refine a_as (y := nI (τ)) w1 ?_
    refine a_iconst (v := (nI 4)) rfl rfl rfl ?_
    refine a_cmpN_ne rfl rfl rfl (by omega) (by omega) (fun _ => ?_) (fun c_19 => False.elim (by omega))
    refine a_aload_0 rfl rfl ?_
    refine a_geti rfl rfl rfl (fun _ _ _ => rfl) ?_
    refine a_as (y := nI (τ)) w1 ?_
    refine a_bipush (v := (nI 62)) rfl rfl rfl ?_
    refine a_cmpN_ne rfl rfl rfl (by omega) (by omega) (fun c_33 => False.elim (by omega)) (fun _ => ?_)
    refine a_bipush (v := (nI 12)) rfl rfl rfl ?_
    refine a_goto rfl rfl ?_
    exact a_iret rfl rfl
  by_cases c4 : c = 44
  · have := f4.mpr c4
    subst c4
    show avA _ 224 0 [.ref 81] [] _ _
    refine a_aload_0 rfl rfl ?_
    refine a_geti rfl rfl rfl (fun _ _ _ => rfl) ?_
    refine a_as (y := nI (τ)) w1 ?_
    refine a_bipush (v := (nI 60)) rfl rfl rfl ?_
    refine a_cmpN_ne rfl rfl rfl (by omega) (by omega) (fun _ => ?_) (fun c_6 => False.elim (by omega))
    refine a_aload_0 rfl rfl ?_
    refine a_geti rfl rfl rfl (fun _ _ _ => rfl) ?_
    refine a_as (y := nI (τ)) w1 ?_
    refine a_iconst (v := (nI 4)) rfl rfl rfl ?_
    refine a_cmpN_ne rfl rfl rfl (by omega) (by omega) (fun _ => ?_) (fun c_19 => False.elim (by omega))
    refine a_aload_0 rfl rfl ?_
    refine a_geti rfl rfl rfl (fun _ _ _ => rfl) ?_
    refine a_as (y := nI (τ)) w1 ?_
    refine a_bipush (v := (nI 62)) rfl rfl rfl ?_
    refine a_cmpN_ne rfl rfl rfl (by omega) (by omega) (fun _ => ?_) (fun c_33 => False.elim (by omega))
    refine a_aload_0 rfl rfl ?_
    refine a_geti rfl rfl rfl (fun _ _ _ => rfl) ?_
    refine a_as (y := nI (τ)) w1 ?_
    refine a_iconst (v := (nI 5)) rfl rfl rfl ?_
    refine a_cmpN_ne rfl rfl rfl (by omega) (by omega) (fun c_46 => False.elim (by omega)) (fun _ => ?_)
    refine a_bipush (v := (nI 13)) rfl rfl rfl ?_
    refine a_goto rfl rfl ?_
    exact a_iret rfl rfl
  by_cases c5 : c = 34
  · have := f5.mpr c5
    subst c5
    show avA _ 224 0 [.ref 81] [] _ _
    refine a_aload_0 rfl rfl ?_
    refine a_geti rfl rfl rfl (fun _ _ _ => rfl) ?_
    refine a_as (y := nI (τ)) w1 ?_
    refine a_bipush (v := (nI 60)) rfl rfl rfl ?_
    refine a_cmpN_ne rfl rfl rfl (by omega) (by omega) (fun _ => ?_) (fun c_6 => False.elim (by omega))
    refine a_aload_0 rfl rfl ?_
    refine a_geti rfl rfl rfl (fun _ _ _ => rfl) ?_
    refine a_as (y := nI (τ)) w1 ?_
    refine a_iconst (v := (nI 4)) rfl rfl rfl ?_
    refine a_cmpN_ne rfl rfl rfl (by omega) (by omega) (fun _ => ?_) (fun c_19 => False.elim (by omega))
    refine a_aload_0 rfl rfl ?_
    refine a_geti rfl rfl rfl (fun _ _ _ => rfl) ?_
    refine a_as (y := nI (τ)) w1 ?_
    refine a_bipush (v := (nI 62)) rfl rfl rfl ?_
    refine a_cmpN_ne rfl rfl rfl (by omega) (by omega) (fun _ => ?_) (fun c_33 => False.elim (by omega))
    refine a_aload_0 rfl rfl ?_
    refine a_geti rfl rfl rfl (fun _ _ _ => rfl) ?_
    refine a_as (y := nI (τ)) w1 ?_
    refine a_iconst (v := (nI 5)) rfl rfl rfl ?_
    refine a_cmpN_ne rfl rfl rfl (by omega) (by omega) (fun _ => ?_) (fun c_46 => False.elim (by omega))
    refine a_aload_0 rfl rfl ?_
    refine a_geti rfl rfl rfl (fun _ _ _ => rfl) ?_
    refine a_as (y := nI (τ)) w1 ?_
    refine a_bipush (v := (nI 61)) rfl rfl rfl ?_
    refine a_cmpN_ne rfl rfl rfl (by omega) (by omega) (fun c_60 => False.elim (by omega)) (fun _ => ?_)
    refine a_bipush (v := (nI 14)) rfl rfl rfl ?_
    refine a_goto rfl rfl ?_
    exact a_iret rfl rfl
  by_cases c6 : c = 35
  · have := f6.mpr c6
    subst c6
    show avA _ 224 0 [.ref 81] [] _ _
    refine a_aload_0 rfl rfl ?_
    refine a_geti rfl rfl rfl (fun _ _ _ => rfl) ?_
    refine a_as (y := nI (τ)) w1 ?_
    refine a_bipush (v := (nI 60)) rfl rfl rfl ?_
    refine a_cmpN_ne rfl rfl rfl (by omega) (by omega) (fun _ => ?_) (fun c_6 => False.elim (by omega))
    refine a_aload_0 rfl rfl ?_
    refine a_geti rfl rfl rfl (fun _ _ _ => rfl) ?_
    refine a_as (y := nI (τ)) w1 ?_
    refine a_iconst (v := (nI 4)) rfl rfl rfl ?_
    refine a_cmpN_ne rfl rfl rfl (by omega) (by omega) (fun _ => ?_) (fun c_19 => False.elim (by omega))
    refine a_aload_0 rfl rfl ?_
    refine a_geti rfl rfl rfl (fun _ _ _ => rfl) ?_
    refine a_as (y := nI (τ)) w1 ?_
    refine a_bipush (v := (nI 62)) rfl rfl rfl ?_
    refine a_cmpN_ne rfl rfl rfl (by omega) (by omega) (fun _ => ?_) (fun c_33 => False.elim (by omega))
    refine a_aload_0 rfl rfl ?_
    refine a_geti rfl rfl rfl (fun _ _ _ => rfl) ?_
    refine a_as (y := nI (τ)) w1 ?_
    refine a_iconst (v := (nI 5)) rfl rfl rfl ?_
    refine a_cmpN_ne rfl rfl rfl (by omega) (by omega) (fun _ => ?_) (fun c_46 => False.elim (by omega))
    refine a_aload_0 rfl rfl ?_
    refine a_geti rfl rfl rfl (fun _ _ _ => rfl) ?_
    refine a_as (y := nI (τ)) w1 ?_
    refine a_bipush (v := (nI 61)) rfl rfl rfl ?_
    refine a_cmpN_ne rfl rfl rfl (by omega) (by omega) (fun _ => ?_) (fun c_60 => False.elim (by omega))
    refine a_aload_0 rfl rfl ?_
    refine a_geti rfl rfl rfl (fun _ _ _ => rfl) ?_
    refine a_as (y := nI (τ)) w1 ?_
    refine a_bipush (v := (nI 35)) rfl rfl rfl ?_
    refine a_cmpN_ne rfl rfl rfl (by omega) (by omega) (fun c_74 => False.elim (by omega)) (fun _ => ?_)
    refine a_bipush (v := (nI 15)) rfl rfl rfl ?_
    refine a_goto rfl rfl ?_
    exact a_iret rfl rfl
  have e0 : cmpO c = 0 := by
    unfold cmpO
    rw [if_neg c1, if_neg c2, if_neg c3, if_neg c4, if_neg c5, if_neg c6]
  rw [e0]
  show avA _ 224 0 [.ref 81] [] _ _
  refine a_aload_0 rfl rfl ?_
  refine a_geti rfl rfl rfl (fun _ _ _ => rfl) ?_
  refine a_as (y := nI (τ)) w1 ?_
  refine a_bipush (v := (nI 60)) rfl rfl rfl ?_
  refine a_cmpN_ne rfl rfl rfl (by omega) (by omega) (fun _ => ?_) (fun c_6 => False.elim (c1 (f1.mp c_6)))
  refine a_aload_0 rfl rfl ?_
  refine a_geti rfl rfl rfl (fun _ _ _ => rfl) ?_
  refine a_as (y := nI (τ)) w1 ?_
  refine a_iconst (v := (nI 4)) rfl rfl rfl ?_
  refine a_cmpN_ne rfl rfl rfl (by omega) (by omega) (fun _ => ?_) (fun c_19 => False.elim (c2 (f2.mp c_19)))
  refine a_aload_0 rfl rfl ?_
  refine a_geti rfl rfl rfl (fun _ _ _ => rfl) ?_
  refine a_as (y := nI (τ)) w1 ?_
  refine a_bipush (v := (nI 62)) rfl rfl rfl ?_
  refine a_cmpN_ne rfl rfl rfl (by omega) (by omega) (fun _ => ?_) (fun c_33 => False.elim (c3 (f3.mp c_33)))
  refine a_aload_0 rfl rfl ?_
  refine a_geti rfl rfl rfl (fun _ _ _ => rfl) ?_
  refine a_as (y := nI (τ)) w1 ?_
  refine a_iconst (v := (nI 5)) rfl rfl rfl ?_
  refine a_cmpN_ne rfl rfl rfl (by omega) (by omega) (fun _ => ?_) (fun c_46 => False.elim (c4 (f4.mp c_46)))
  refine a_aload_0 rfl rfl ?_
  refine a_geti rfl rfl rfl (fun _ _ _ => rfl) ?_
  refine a_as (y := nI (τ)) w1 ?_
  refine a_bipush (v := (nI 61)) rfl rfl rfl ?_
  refine a_cmpN_ne rfl rfl rfl (by omega) (by omega) (fun _ => ?_) (fun c_60 => False.elim (c5 (f5.mp c_60)))
  refine a_aload_0 rfl rfl ?_
  refine a_geti rfl rfl rfl (fun _ _ _ => rfl) ?_
  refine a_as (y := nI (τ)) w1 ?_
  refine a_bipush (v := (nI 35)) rfl rfl rfl ?_
  refine a_cmpN_ne rfl rfl rfl (by omega) (by omega) (fun _ => ?_) (fun c_74 => False.elim (c6 (f6.mp c_74)))
  refine a_iconst (v := (-1)) rfl rfl rfl ?_
  exact a_iret rfl rfl
theorem r_between {h : Nat → Nat → Int32} {gl : Nat → Nat → Int64} {P : List Nat} {w : CdL} (T : TS b k n i h gl) (Q : RQ x law P w h) : avE 3 219 [.ref 81] (sX L t lt rt rp sw h gl) (some (.int (oV (bTw (cdT b k) i P))), sX L t lt rt rp sw h gl) := by
  obtain ⟨τ, W⟩ := rTk_W T.2.2.1
  have W' : tW (cdT b k i) h gl τ := W
  obtain ⟨w1, w2, w3, w4⟩ := id W'
  obtain ⟨a1, a2, a3, a4, a5, a6, a7, a8, a9, a10, a11⟩ := id Q
  obtain ⟨_, _, _, _, f45, f43, f42, f47, _⟩ := TR_iff w3
  clear w3 w4
  have o64 := opn_lt a8
  unfold bTw
  by_cases c1 : cdT b k i = 36
  · rw [if_pos c1]
    have := f43.mpr c1
    show avA _ 219 0 [.ref 81] [] _ _
    refine a_aload_0 rfl rfl ?_
    refine a_geti rfl rfl rfl (fun _ _ _ => rfl) ?_
    refine a_as (y := nI (τ)) w1 ?_
    refine a_bipush (v := (nI 43)) rfl rfl rfl ?_
    refine a_cmpN_ne rfl rfl rfl (by omega) (by omega) (fun c_6 => False.elim (by omega)) (fun _ => ?_)
    refine a_bipush (v := (nI 6)) rfl rfl rfl ?_
    exact a_iret rfl rfl
  rw [if_neg c1]
  by_cases c2 : cdT b k i = 37
  · rw [if_pos c2]
    have := f45.mpr c2
    show avA _ 219 0 [.ref 81] [] _ _
    refine a_aload_0 rfl rfl ?_
    refine a_geti rfl rfl rfl (fun _ _ _ => rfl) ?_
    refine a_as (y := nI (τ)) w1 ?_
    refine a_bipush (v := (nI 43)) rfl rfl rfl ?_
    refine a_cmpN_ne rfl rfl rfl (by omega) (by omega) (fun _ => ?_) (fun c_6 => False.elim (by omega))
    refine a_aload_0 rfl rfl ?_
    refine a_geti rfl rfl rfl (fun _ _ _ => rfl) ?_
    refine a_as (y := nI (τ)) w1 ?_
    refine a_bipush (v := (nI 45)) rfl rfl rfl ?_
    refine a_cmpN_ne rfl rfl rfl (by omega) (by omega) (fun c_18 => False.elim (by omega)) (fun _ => ?_)
    refine a_bipush (v := (nI 7)) rfl rfl rfl ?_
    exact a_iret rfl rfl
  rw [if_neg c2]
  by_cases c3 : cdT b k i = 38
  · rw [if_pos c3]
    have := f42.mpr c3
    show avA _ 219 0 [.ref 81] [] _ _
    refine a_aload_0 rfl rfl ?_
    refine a_geti rfl rfl rfl (fun _ _ _ => rfl) ?_
    refine a_as (y := nI (τ)) w1 ?_
    refine a_bipush (v := (nI 43)) rfl rfl rfl ?_
    refine a_cmpN_ne rfl rfl rfl (by omega) (by omega) (fun _ => ?_) (fun c_6 => False.elim (by omega))
    refine a_aload_0 rfl rfl ?_
    refine a_geti rfl rfl rfl (fun _ _ _ => rfl) ?_
    refine a_as (y := nI (τ)) w1 ?_
    refine a_bipush (v := (nI 45)) rfl rfl rfl ?_
    refine a_cmpN_ne rfl rfl rfl (by omega) (by omega) (fun _ => ?_) (fun c_18 => False.elim (by omega))
    refine a_aload_0 rfl rfl ?_
    refine a_geti rfl rfl rfl (fun _ _ _ => rfl) ?_
    refine a_as (y := nI (τ)) w1 ?_
    refine a_bipush (v := (nI 42)) rfl rfl rfl ?_
    refine a_cmpN_ne rfl rfl rfl (by omega) (by omega) (fun c_30 => False.elim (by omega)) (fun _ => ?_)
    refine a_bipush (v := (nI 8)) rfl rfl rfl ?_
    exact a_iret rfl rfl
  rw [if_neg c3]
  by_cases c4 : cdT b k i = 39
  · rw [if_pos c4]
    have := f47.mpr c4
    show avA _ 219 0 [.ref 81] [] _ _
    refine a_aload_0 rfl rfl ?_
    refine a_geti rfl rfl rfl (fun _ _ _ => rfl) ?_
    refine a_as (y := nI (τ)) w1 ?_
    refine a_bipush (v := (nI 43)) rfl rfl rfl ?_
    refine a_cmpN_ne rfl rfl rfl (by omega) (by omega) (fun _ => ?_) (fun c_6 => False.elim (by omega))
    refine a_aload_0 rfl rfl ?_
    refine a_geti rfl rfl rfl (fun _ _ _ => rfl) ?_
    refine a_as (y := nI (τ)) w1 ?_
    refine a_bipush (v := (nI 45)) rfl rfl rfl ?_
    refine a_cmpN_ne rfl rfl rfl (by omega) (by omega) (fun _ => ?_) (fun c_18 => False.elim (by omega))
    refine a_aload_0 rfl rfl ?_
    refine a_geti rfl rfl rfl (fun _ _ _ => rfl) ?_
    refine a_as (y := nI (τ)) w1 ?_
    refine a_bipush (v := (nI 42)) rfl rfl rfl ?_
    refine a_cmpN_ne rfl rfl rfl (by omega) (by omega) (fun _ => ?_) (fun c_30 => False.elim (by omega))
    refine a_aload_0 rfl rfl ?_
    refine a_geti rfl rfl rfl (fun _ _ _ => rfl) ?_
    refine a_as (y := nI (τ)) w1 ?_
    refine a_bipush (v := (nI 47)) rfl rfl rfl ?_
    refine a_cmpN_ne rfl rfl rfl (by omega) (by omega) (fun c_42 => False.elim (by omega)) (fun _ => ?_)
    refine a_bipush (v := (nI 9)) rfl rfl rfl ?_
    exact a_iret rfl rfl
  rw [if_neg c4]
  by_cases h0 : opn P = 0
  · rw [if_neg (by omega)]
    show avA _ 219 0 [.ref 81] [] _ _
    refine a_aload_0 rfl rfl ?_
    refine a_geti rfl rfl rfl (fun _ _ _ => rfl) ?_
    refine a_as (y := nI (τ)) w1 ?_
    refine a_bipush (v := (nI 43)) rfl rfl rfl ?_
    refine a_cmpN_ne rfl rfl rfl (by omega) (by omega) (fun _ => ?_) (fun c_6 => False.elim (c1 (f43.mp c_6)))
    refine a_aload_0 rfl rfl ?_
    refine a_geti rfl rfl rfl (fun _ _ _ => rfl) ?_
    refine a_as (y := nI (τ)) w1 ?_
    refine a_bipush (v := (nI 45)) rfl rfl rfl ?_
    refine a_cmpN_ne rfl rfl rfl (by omega) (by omega) (fun _ => ?_) (fun c_18 => False.elim (c2 (f45.mp c_18)))
    refine a_aload_0 rfl rfl ?_
    refine a_geti rfl rfl rfl (fun _ _ _ => rfl) ?_
    refine a_as (y := nI (τ)) w1 ?_
    refine a_bipush (v := (nI 42)) rfl rfl rfl ?_
    refine a_cmpN_ne rfl rfl rfl (by omega) (by omega) (fun _ => ?_) (fun c_30 => False.elim (c3 (f42.mp c_30)))
    refine a_aload_0 rfl rfl ?_
    refine a_geti rfl rfl rfl (fun _ _ _ => rfl) ?_
    refine a_as (y := nI (τ)) w1 ?_
    refine a_bipush (v := (nI 47)) rfl rfl rfl ?_
    refine a_cmpN_ne rfl rfl rfl (by omega) (by omega) (fun _ => ?_) (fun c_42 => False.elim (c4 (f47.mp c_42)))
    refine a_aload_0 rfl rfl ?_
    refine a_virtI rfl rfl (r_open0 (by omega) a8 a6 h0) (Nat.le_of_ble_eq_true rfl) ⟨rfl, rfl, rfl, rfl⟩ rfl rfl rfl (Nat.le_of_ble_eq_true rfl) rfl rfl ?_
    refine a_bipush (v := (nI 42)) rfl rfl rfl ?_
    refine a_cmp_eq rfl rfl rfl (fun c_54 => by first | exact absurd c_54 (by decide) | exact absurd (by decide) c_54) (fun _ => ?_)
    refine a_iconst (v := (-1)) rfl rfl rfl ?_
    exact a_iret rfl rfl
  by_cases h42 : opn P = 42
  · rw [if_pos h42]
    have CM := r_isCmp (L := L) (t := t) (lt := lt) (rt := rt) (rp := rp) (sw := sw) (gl := gl) (by omega) a8 a6
    have CO := r_cmpOf (L := L) (t := t) (lt := lt) (rt := rt) (rp := rp) (sw := sw) W'
    have S29 := r_isWord (L := L) (t := t) (lt := lt) (rt := rt) (rp := rp) (sw := sw) W' 29 (by decide)
    have S28 := r_isWord (L := L) (t := t) (lt := lt) (rt := rt) (rp := rp) (sw := sw) W' 28 (by decide)
    by_cases hc : cmpd P = true
    · rw [if_pos hc]
      show avA _ 219 0 [.ref 81] [] _ _
      refine a_aload_0 rfl rfl ?_
      refine a_geti rfl rfl rfl (fun _ _ _ => rfl) ?_
      refine a_as (y := nI (τ)) w1 ?_
      refine a_bipush (v := (nI 43)) rfl rfl rfl ?_
      refine a_cmpN_ne rfl rfl rfl (by omega) (by omega) (fun _ => ?_) (fun c_6 => False.elim (c1 (f43.mp c_6)))
      refine a_aload_0 rfl rfl ?_
      refine a_geti rfl rfl rfl (fun _ _ _ => rfl) ?_
      refine a_as (y := nI (τ)) w1 ?_
      refine a_bipush (v := (nI 45)) rfl rfl rfl ?_
      refine a_cmpN_ne rfl rfl rfl (by omega) (by omega) (fun _ => ?_) (fun c_18 => False.elim (c2 (f45.mp c_18)))
      refine a_aload_0 rfl rfl ?_
      refine a_geti rfl rfl rfl (fun _ _ _ => rfl) ?_
      refine a_as (y := nI (τ)) w1 ?_
      refine a_bipush (v := (nI 42)) rfl rfl rfl ?_
      refine a_cmpN_ne rfl rfl rfl (by omega) (by omega) (fun _ => ?_) (fun c_30 => False.elim (c3 (f42.mp c_30)))
      refine a_aload_0 rfl rfl ?_
      refine a_geti rfl rfl rfl (fun _ _ _ => rfl) ?_
      refine a_as (y := nI (τ)) w1 ?_
      refine a_bipush (v := (nI 47)) rfl rfl rfl ?_
      refine a_cmpN_ne rfl rfl rfl (by omega) (by omega) (fun _ => ?_) (fun c_42 => False.elim (c4 (f47.mp c_42)))
      refine a_aload_0 rfl rfl ?_
      refine a_virtI rfl rfl (r_openN (by omega) a8 a6 h0) (Nat.le_of_ble_eq_true rfl) ⟨rfl, rfl, rfl, rfl⟩ rfl rfl rfl (Nat.le_of_ble_eq_true rfl) rfl rfl ?_
      refine a_bipush (v := (nI 42)) rfl rfl rfl ?_
      refine a_cmpN_eq rfl rfl rfl (by omega) (by omega) (fun _ => ?_) (fun c_54 => False.elim (c_54 h42))
      refine a_aload_0 rfl rfl ?_
      refine a_virtI rfl rfl (CM) (Nat.le_of_ble_eq_true rfl) ⟨rfl, rfl, rfl, rfl⟩ rfl rfl rfl (Nat.le_of_ble_eq_true rfl) rfl rfl ?_
      refine a_ifb_ne rfl rfl rfl (fun _ => ?_) (fun c_63 => by first | exact absurd hc c_63 | exact absurd c_63 hc)
      refine a_aload_0 rfl rfl ?_
      refine a_bipush (v := (nI 97)) rfl rfl rfl ?_
      refine a_bipush (v := (nI 110)) rfl rfl rfl ?_
      refine a_bipush (v := (nI 100)) rfl rfl rfl ?_
      refine a_statL rfl rfl (r_w3 97 110 100 (by decide) (by decide) (by decide)) (Nat.le_of_ble_eq_true rfl) ⟨rfl, rfl, rfl⟩ rfl rfl rfl (Nat.le_of_ble_eq_true rfl) rfl ?_
      refine a_asL (y := lN (wW 29)) rfl ?_
      refine a_virtI rfl rfl (S29) (Nat.le_of_ble_eq_true rfl) ⟨rfl, rfl, rfl, rfl⟩ rfl rfl rfl (Nat.le_of_ble_eq_true rfl) rfl rfl ?_
      refine a_ifb_eq rfl rfl rfl (fun c_84 => ?_) (fun c_84 => ?_)
      · refine a_aload_0 rfl rfl ?_
        refine a_bipush (v := (nI 111)) rfl rfl rfl ?_
        refine a_bipush (v := (nI 114)) rfl rfl rfl ?_
        refine a_statL rfl rfl (r_w2 111 114 (by decide) (by decide)) (Nat.le_of_ble_eq_true rfl) ⟨rfl, rfl, rfl⟩ rfl rfl rfl (Nat.le_of_ble_eq_true rfl) rfl ?_
        refine a_asL (y := lN (wW 28)) rfl ?_
        refine a_virtI rfl rfl (S28) (Nat.le_of_ble_eq_true rfl) ⟨rfl, rfl, rfl, rfl⟩ rfl rfl rfl (Nat.le_of_ble_eq_true rfl) rfl rfl ?_
        refine a_ifb_eq rfl rfl rfl (fun c_103 => ?_) (fun c_103 => ?_)
        · rw [if_neg c_84, if_neg c_103]
          refine a_iconst (v := (-1)) rfl rfl rfl ?_
          exact a_iret rfl rfl
        · rw [if_neg c_84, if_pos c_103]
          refine a_bipush (v := (nI 22)) rfl rfl rfl ?_
          refine a_goto rfl rfl ?_
          exact a_iret rfl rfl
      · rw [if_pos c_84]
        refine a_bipush (v := (nI 21)) rfl rfl rfl ?_
        refine a_goto rfl rfl ?_
        exact a_iret rfl rfl
    · rw [if_neg hc]
      show avA _ 219 0 [.ref 81] [] _ _
      refine a_aload_0 rfl rfl ?_
      refine a_geti rfl rfl rfl (fun _ _ _ => rfl) ?_
      refine a_as (y := nI (τ)) w1 ?_
      refine a_bipush (v := (nI 43)) rfl rfl rfl ?_
      refine a_cmpN_ne rfl rfl rfl (by omega) (by omega) (fun _ => ?_) (fun c_6 => False.elim (c1 (f43.mp c_6)))
      refine a_aload_0 rfl rfl ?_
      refine a_geti rfl rfl rfl (fun _ _ _ => rfl) ?_
      refine a_as (y := nI (τ)) w1 ?_
      refine a_bipush (v := (nI 45)) rfl rfl rfl ?_
      refine a_cmpN_ne rfl rfl rfl (by omega) (by omega) (fun _ => ?_) (fun c_18 => False.elim (c2 (f45.mp c_18)))
      refine a_aload_0 rfl rfl ?_
      refine a_geti rfl rfl rfl (fun _ _ _ => rfl) ?_
      refine a_as (y := nI (τ)) w1 ?_
      refine a_bipush (v := (nI 42)) rfl rfl rfl ?_
      refine a_cmpN_ne rfl rfl rfl (by omega) (by omega) (fun _ => ?_) (fun c_30 => False.elim (c3 (f42.mp c_30)))
      refine a_aload_0 rfl rfl ?_
      refine a_geti rfl rfl rfl (fun _ _ _ => rfl) ?_
      refine a_as (y := nI (τ)) w1 ?_
      refine a_bipush (v := (nI 47)) rfl rfl rfl ?_
      refine a_cmpN_ne rfl rfl rfl (by omega) (by omega) (fun _ => ?_) (fun c_42 => False.elim (c4 (f47.mp c_42)))
      refine a_aload_0 rfl rfl ?_
      refine a_virtI rfl rfl (r_openN (by omega) a8 a6 h0) (Nat.le_of_ble_eq_true rfl) ⟨rfl, rfl, rfl, rfl⟩ rfl rfl rfl (Nat.le_of_ble_eq_true rfl) rfl rfl ?_
      refine a_bipush (v := (nI 42)) rfl rfl rfl ?_
      refine a_cmpN_eq rfl rfl rfl (by omega) (by omega) (fun _ => ?_) (fun c_54 => False.elim (c_54 h42))
      refine a_aload_0 rfl rfl ?_
      refine a_virtI rfl rfl (CM) (Nat.le_of_ble_eq_true rfl) ⟨rfl, rfl, rfl, rfl⟩ rfl rfl rfl (Nat.le_of_ble_eq_true rfl) rfl rfl ?_
      refine a_ifb_ne rfl rfl rfl (fun c_63 => by first | exact absurd c_63 hc | exact absurd hc c_63) (fun _ => ?_)
      refine a_aload_0 rfl rfl ?_
      refine a_virtI rfl rfl (CO) (Nat.le_of_ble_eq_true rfl) ⟨rfl, rfl, rfl, rfl⟩ rfl rfl rfl (Nat.le_of_ble_eq_true rfl) rfl rfl ?_
      exact a_iret rfl rfl
  · rw [if_neg h42]
    show avA _ 219 0 [.ref 81] [] _ _
    refine a_aload_0 rfl rfl ?_
    refine a_geti rfl rfl rfl (fun _ _ _ => rfl) ?_
    refine a_as (y := nI (τ)) w1 ?_
    refine a_bipush (v := (nI 43)) rfl rfl rfl ?_
    refine a_cmpN_ne rfl rfl rfl (by omega) (by omega) (fun _ => ?_) (fun c_6 => False.elim (c1 (f43.mp c_6)))
    refine a_aload_0 rfl rfl ?_
    refine a_geti rfl rfl rfl (fun _ _ _ => rfl) ?_
    refine a_as (y := nI (τ)) w1 ?_
    refine a_bipush (v := (nI 45)) rfl rfl rfl ?_
    refine a_cmpN_ne rfl rfl rfl (by omega) (by omega) (fun _ => ?_) (fun c_18 => False.elim (c2 (f45.mp c_18)))
    refine a_aload_0 rfl rfl ?_
    refine a_geti rfl rfl rfl (fun _ _ _ => rfl) ?_
    refine a_as (y := nI (τ)) w1 ?_
    refine a_bipush (v := (nI 42)) rfl rfl rfl ?_
    refine a_cmpN_ne rfl rfl rfl (by omega) (by omega) (fun _ => ?_) (fun c_30 => False.elim (c3 (f42.mp c_30)))
    refine a_aload_0 rfl rfl ?_
    refine a_geti rfl rfl rfl (fun _ _ _ => rfl) ?_
    refine a_as (y := nI (τ)) w1 ?_
    refine a_bipush (v := (nI 47)) rfl rfl rfl ?_
    refine a_cmpN_ne rfl rfl rfl (by omega) (by omega) (fun _ => ?_) (fun c_42 => False.elim (c4 (f47.mp c_42)))
    refine a_aload_0 rfl rfl ?_
    refine a_virtI rfl rfl (r_openN (by omega) a8 a6 h0) (Nat.le_of_ble_eq_true rfl) ⟨rfl, rfl, rfl, rfl⟩ rfl rfl rfl (Nat.le_of_ble_eq_true rfl) rfl rfl ?_
    refine a_bipush (v := (nI 42)) rfl rfl rfl ?_
    refine a_cmpN_eq rfl rfl rfl (by omega) (by omega) (fun c_54 => False.elim (h42 c_54)) (fun _ => ?_)
    refine a_iconst (v := (-1)) rfl rfl rfl ?_
    exact a_iret rfl rfl
/-- the answer of partOf -/
def pV (p : Nat) : Int32 := if p = 0 then -1 else if p = 1 then nI 0 else nI p
theorem r_partOf {h : Nat → Nat → Int32} {gl : Nat → Nat → Int64} {P : List Nat} {w : CdL} (T : TS b k n i h gl) (Q : RQ x law P w h) : avE 3 227 [.ref 81, .int (oV (opn P))] (sX L t lt rt rp sw h gl) (some (.int (pV (prt (cdT b k) i P))), sX L t lt rt rp sw h gl) := by
  obtain ⟨τ, W⟩ := rTk_W T.2.2.1
  have W' : tW (cdT b k i) h gl τ := W
  obtain ⟨w1, w2, w3, w4⟩ := id W'
  obtain ⟨a1, a2, a3, a4, a5, a6, a7, a8, a9, a10, a11⟩ := id Q
  obtain ⟨_, _, _, _, _, _, _, _, f41, _⟩ := TR_iff w3
  clear w3 w4
  have o64 := opn_lt a8
  have CM := r_isCmp (L := L) (t := t) (lt := lt) (rt := rt) (rp := rp) (sw := sw) (gl := gl) (by omega) a8 a6
  unfold prt
  by_cases q40 : opn P = 40
  · rw [q40, if_pos rfl]
    by_cases c : cdT b k i = 41
    · rw [if_pos c]
      have := f41.mpr c
      show avA _ 227 0 [.ref 81, .int (nI 40)] [] _ _
      refine a_iload_1 rfl rfl ?_
      refine a_tabIn rfl (by decide) rfl rfl ?_
      refine a_aload_0 rfl rfl ?_
      refine a_geti rfl rfl rfl (fun _ _ _ => rfl) ?_
      refine a_as (y := nI (τ)) w1 ?_
      refine a_bipush (v := (nI 41)) rfl rfl rfl ?_
      refine a_cmpN_ne rfl rfl rfl (by omega) (by omega) (fun c_42 => False.elim (by omega)) (fun _ => ?_)
      refine a_iconst (v := (nI 0)) rfl rfl rfl ?_
      refine a_goto rfl rfl ?_
      exact a_iret rfl rfl
    · rw [if_neg c]
      show avA _ 227 0 [.ref 81, .int (nI 40)] [] _ _
      refine a_iload_1 rfl rfl ?_
      refine a_tabIn rfl (by decide) rfl rfl ?_
      refine a_aload_0 rfl rfl ?_
      refine a_geti rfl rfl rfl (fun _ _ _ => rfl) ?_
      refine a_as (y := nI (τ)) w1 ?_
      refine a_bipush (v := (nI 41)) rfl rfl rfl ?_
      refine a_cmpN_ne rfl rfl rfl (by omega) (by omega) (fun _ => ?_) (fun c_42 => False.elim (c (f41.mp c_42)))
      refine a_iconst (v := (-1)) rfl rfl rfl ?_
      exact a_iret rfl rfl
  rw [if_neg q40]
  by_cases q42 : opn P = 42
  · rw [q42, if_pos rfl]
    have S := r_isWord (L := L) (t := t) (lt := lt) (rt := rt) (rp := rp) (sw := sw) W' 25 (by decide)
    by_cases c : cdT b k i = 25 ∧ cmpd P = true
    · rw [if_pos c]
      show avA _ 227 0 [.ref 81, .int (nI 42)] [] _ _
      refine a_iload_1 rfl rfl ?_
      refine a_tabIn rfl (by decide) rfl rfl ?_
      refine a_aload_0 rfl rfl ?_
      refine a_bipush (v := (nI 116)) rfl rfl rfl ?_
      refine a_bipush (v := (nI 104)) rfl rfl rfl ?_
      refine a_bipush (v := (nI 101)) rfl rfl rfl ?_
      refine a_bipush (v := (nI 110)) rfl rfl rfl ?_
      refine a_statL rfl rfl (r_w4 116 104 101 110 (by decide) (by decide) (by decide) (by decide)) (Nat.le_of_ble_eq_true rfl) ⟨rfl, rfl, rfl⟩ rfl rfl rfl (Nat.le_of_ble_eq_true rfl) rfl ?_
      refine a_asL (y := lN (wW 25)) rfl ?_
      refine a_virtI rfl rfl (S) (Nat.le_of_ble_eq_true rfl) ⟨rfl, rfl, rfl, rfl⟩ rfl rfl rfl (Nat.le_of_ble_eq_true rfl) rfl rfl ?_
      refine a_ifb_eq rfl rfl rfl (fun c_66 => by first | exact absurd c_66 (not_not_intro c.1) | exact absurd (not_not_intro c.1) c_66) (fun _ => ?_)
      refine a_aload_0 rfl rfl ?_
      refine a_virtI rfl rfl (CM) (Nat.le_of_ble_eq_true rfl) ⟨rfl, rfl, rfl, rfl⟩ rfl rfl rfl (Nat.le_of_ble_eq_true rfl) rfl rfl ?_
      refine a_ifb_eq rfl rfl rfl (fun c_73 => by first | exact absurd c_73 (not_not_intro c.2) | exact absurd (not_not_intro c.2) c_73) (fun _ => ?_)
      refine a_bipush (v := (nI 43)) rfl rfl rfl ?_
      refine a_goto rfl rfl ?_
      exact a_iret rfl rfl
    · rw [if_neg c]
      show avA _ 227 0 [.ref 81, .int (nI 42)] [] _ _
      refine a_iload_1 rfl rfl ?_
      refine a_tabIn rfl (by decide) rfl rfl ?_
      refine a_aload_0 rfl rfl ?_
      refine a_bipush (v := (nI 116)) rfl rfl rfl ?_
      refine a_bipush (v := (nI 104)) rfl rfl rfl ?_
      refine a_bipush (v := (nI 101)) rfl rfl rfl ?_
      refine a_bipush (v := (nI 110)) rfl rfl rfl ?_
      refine a_statL rfl rfl (r_w4 116 104 101 110 (by decide) (by decide) (by decide) (by decide)) (Nat.le_of_ble_eq_true rfl) ⟨rfl, rfl, rfl⟩ rfl rfl rfl (Nat.le_of_ble_eq_true rfl) rfl ?_
      refine a_asL (y := lN (wW 25)) rfl ?_
      refine a_virtI rfl rfl (S) (Nat.le_of_ble_eq_true rfl) ⟨rfl, rfl, rfl, rfl⟩ rfl rfl rfl (Nat.le_of_ble_eq_true rfl) rfl rfl ?_
      refine a_ifb_eq rfl rfl rfl (fun c_66 => ?_) (fun c_66 => ?_)
      · refine a_iconst (v := (-1)) rfl rfl rfl ?_
        exact a_iret rfl rfl
      · refine a_aload_0 rfl rfl ?_
        refine a_virtI rfl rfl (CM) (Nat.le_of_ble_eq_true rfl) ⟨rfl, rfl, rfl, rfl⟩ rfl rfl rfl (Nat.le_of_ble_eq_true rfl) rfl rfl ?_
        refine a_ifb_eq rfl rfl rfl (fun _ => ?_) (fun c_73 => False.elim (c ⟨c_66, c_73⟩))
        refine a_iconst (v := (-1)) rfl rfl rfl ?_
        exact a_iret rfl rfl
  rw [if_neg q42]
  by_cases q43 : opn P = 43
  · rw [q43, if_pos rfl]
    have S := r_isWord (L := L) (t := t) (lt := lt) (rt := rt) (rp := rp) (sw := sw) W' 26 (by decide)
    by_cases c : cdT b k i = 26
    · rw [if_pos c]
      show avA _ 227 0 [.ref 81, .int (nI 43)] [] _ _
      refine a_iload_1 rfl rfl ?_
      refine a_tabIn rfl (by decide) rfl rfl ?_
      refine a_aload_0 rfl rfl ?_
      refine a_bipush (v := (nI 101)) rfl rfl rfl ?_
      refine a_bipush (v := (nI 108)) rfl rfl rfl ?_
      refine a_bipush (v := (nI 115)) rfl rfl rfl ?_
      refine a_bipush (v := (nI 101)) rfl rfl rfl ?_
      refine a_statL rfl rfl (r_w4 101 108 115 101 (by decide) (by decide) (by decide) (by decide)) (Nat.le_of_ble_eq_true rfl) ⟨rfl, rfl, rfl⟩ rfl rfl rfl (Nat.le_of_ble_eq_true rfl) rfl ?_
      refine a_asL (y := lN (wW 26)) rfl ?_
      refine a_virtI rfl rfl (S) (Nat.le_of_ble_eq_true rfl) ⟨rfl, rfl, rfl, rfl⟩ rfl rfl rfl (Nat.le_of_ble_eq_true rfl) rfl rfl ?_
      refine a_ifb_eq rfl rfl rfl (fun c_98 => by first | exact absurd c_98 (not_not_intro c) | exact absurd (not_not_intro c) c_98) (fun _ => ?_)
      refine a_bipush (v := (nI 44)) rfl rfl rfl ?_
      refine a_goto rfl rfl ?_
      exact a_iret rfl rfl
    · rw [if_neg c]
      show avA _ 227 0 [.ref 81, .int (nI 43)] [] _ _
      refine a_iload_1 rfl rfl ?_
      refine a_tabIn rfl (by decide) rfl rfl ?_
      refine a_aload_0 rfl rfl ?_
      refine a_bipush (v := (nI 101)) rfl rfl rfl ?_
      refine a_bipush (v := (nI 108)) rfl rfl rfl ?_
      refine a_bipush (v := (nI 115)) rfl rfl rfl ?_
      refine a_bipush (v := (nI 101)) rfl rfl rfl ?_
      refine a_statL rfl rfl (r_w4 101 108 115 101 (by decide) (by decide) (by decide) (by decide)) (Nat.le_of_ble_eq_true rfl) ⟨rfl, rfl, rfl⟩ rfl rfl rfl (Nat.le_of_ble_eq_true rfl) rfl ?_
      refine a_asL (y := lN (wW 26)) rfl ?_
      refine a_virtI rfl rfl (S) (Nat.le_of_ble_eq_true rfl) ⟨rfl, rfl, rfl, rfl⟩ rfl rfl rfl (Nat.le_of_ble_eq_true rfl) rfl rfl ?_
      refine a_ifb_eq rfl rfl rfl (fun _ => ?_) (fun c_98 => by first | exact absurd c c_98 | exact absurd c_98 c)
      refine a_iconst (v := (-1)) rfl rfl rfl ?_
      exact a_iret rfl rfl
  rw [if_neg q43]
  by_cases q44 : opn P = 44
  · rw [q44, if_pos rfl]
    have S := r_isWord (L := L) (t := t) (lt := lt) (rt := rt) (rp := rp) (sw := sw) W' 27 (by decide)
    by_cases c : cdT b k i = 27
    · rw [if_pos c]
      show avA _ 227 0 [.ref 81, .int (nI 44)] [] _ _
      refine a_iload_1 rfl rfl ?_
      refine a_tabIn rfl (by decide) rfl rfl ?_
      refine a_aload_0 rfl rfl ?_
      refine a_bipush (v := (nI 101)) rfl rfl rfl ?_
      refine a_bipush (v := (nI 110)) rfl rfl rfl ?_
      refine a_bipush (v := (nI 100)) rfl rfl rfl ?_
      refine a_statL rfl rfl (r_w3 101 110 100 (by decide) (by decide) (by decide)) (Nat.le_of_ble_eq_true rfl) ⟨rfl, rfl, rfl⟩ rfl rfl rfl (Nat.le_of_ble_eq_true rfl) rfl ?_
      refine a_asL (y := lN (wW 27)) rfl ?_
      refine a_virtI rfl rfl (S) (Nat.le_of_ble_eq_true rfl) ⟨rfl, rfl, rfl, rfl⟩ rfl rfl rfl (Nat.le_of_ble_eq_true rfl) rfl rfl ?_
      refine a_ifb_eq rfl rfl rfl (fun c_121 => by first | exact absurd c_121 (not_not_intro c) | exact absurd (not_not_intro c) c_121) (fun _ => ?_)
      refine a_iconst (v := (nI 0)) rfl rfl rfl ?_
      refine a_goto rfl rfl ?_
      exact a_iret rfl rfl
    · rw [if_neg c]
      show avA _ 227 0 [.ref 81, .int (nI 44)] [] _ _
      refine a_iload_1 rfl rfl ?_
      refine a_tabIn rfl (by decide) rfl rfl ?_
      refine a_aload_0 rfl rfl ?_
      refine a_bipush (v := (nI 101)) rfl rfl rfl ?_
      refine a_bipush (v := (nI 110)) rfl rfl rfl ?_
      refine a_bipush (v := (nI 100)) rfl rfl rfl ?_
      refine a_statL rfl rfl (r_w3 101 110 100 (by decide) (by decide) (by decide)) (Nat.le_of_ble_eq_true rfl) ⟨rfl, rfl, rfl⟩ rfl rfl rfl (Nat.le_of_ble_eq_true rfl) rfl ?_
      refine a_asL (y := lN (wW 27)) rfl ?_
      refine a_virtI rfl rfl (S) (Nat.le_of_ble_eq_true rfl) ⟨rfl, rfl, rfl, rfl⟩ rfl rfl rfl (Nat.le_of_ble_eq_true rfl) rfl rfl ?_
      refine a_ifb_eq rfl rfl rfl (fun _ => ?_) (fun c_121 => by first | exact absurd c c_121 | exact absurd c_121 c)
      refine a_iconst (v := (-1)) rfl rfl rfl ?_
      exact a_iret rfl rfl
  rw [if_neg q44]
  by_cases q0 : opn P = 0
  · rw [q0]
    show avA _ 227 0 [.ref 81, .int (-1)] [] _ _
    refine a_iload_1 rfl rfl ?_
    refine a_tabOut rfl (by decide) rfl ?_
    refine a_iconst (v := (-1)) rfl rfl rfl ?_
    exact a_iret rfl rfl
  by_cases q41 : opn P = 41
  · rw [q41]
    show avA _ 227 0 [.ref 81, .int (nI 41)] [] _ _
    refine a_iload_1 rfl rfl ?_
    refine a_tabIn rfl (by decide) rfl rfl ?_
    refine a_iconst (v := (-1)) rfl rfl rfl ?_
    exact a_iret rfl rfl
  rw [oV_n q0]
  have tt : (nI (opn P)).toInt = (opn P : Int) := nI_toInt (by omega)
  have hr : opn P < 40 ∨ 44 < opn P := by omega
  show avA _ 227 0 [.ref 81, .int (nI (opn P))] [] _ _
  refine a_iload_1 rfl rfl ?_
  refine a_tabOut rfl (by rw [tt]; omega) rfl ?_
  refine a_iconst (v := (-1)) rfl rfl rfl ?_
  exact a_iret rfl rfl
end RG
