/-! WAYS OF THE REFERENCE, ROOMS OF BOTH -/
section RZ
variable {L t : Nat} {lt rt rp : Option Nat} {sw : Bool} {h : Nat → Nat → Int32} {gl : Nat → Nat → Int64}
theorem l_rway2 (op : Nat → Bool) (g a n i : Nat) (hg : g < 30) (ha : a < 30) (hn : n < 30) (hi : i < n) (hX : ∀ j, j < 30 → h 91 j = frF op (nI g) j) (hn0 : frF op (nI g) a = nI n) (c' : Nat) (hc' : wyP (frF op (nI g)) a (i + 1) c') (m : Nat) : ∀ (k c : Nat) (y : Value), k + m = i + 1 → c < 30 → wyP (frF op (nI g)) a k c → avA 5 290 55 [.ref 81, .int (nI a), .int (nI g), .int (nI i), .int (nI c), .int (nI k), y] [] (sX L t lt rt rp sw h gl) (some (.int (nI c')), sX L t lt rt rp sw h gl) := by
  induction m with
  | zero =>
    intro k c y hk hc w
    have e : k = i + 1 := by omega
    subst e
    have e2 := wy_un _ _ _ _ _ w hc'
    subst e2
    refine a_iload_5 rfl rfl ?_
    refine a_iload_3 rfl rfl ?_
    refine a_cmpN_gt rfl rfl rfl (by omega) (by omega) (fun _ => ?_) (fun c_58 => False.elim (by omega))
    refine a_iload_4 rfl rfl ?_
    exact a_iret rfl rfl
  | succ m ih =>
    intro k c y hk hc w
    obtain ⟨c1, hc1, w1, e1⟩ := wy_ex op g a n hg ha hn hn0 (k + 1) (by omega)
    have w1' := w1
    obtain ⟨b, wb, _, q1, q2⟩ := w1
    have eb := wy_un _ _ _ _ _ wb w
    subst eb
    refine a_iload_5 rfl rfl ?_
    refine a_iload_3 rfl rfl ?_
    refine a_cmpN_gt rfl rfl rfl (by omega) (by omega) (fun c_58 => False.elim (by omega)) (fun _ => ?_)
    refine a_iconst (v := (nI 0)) rfl rfl rfl ?_
    refine a_istore_6 rfl rfl rfl ?_
    refine l_rway1 (frF op (nI g)) hX a g i b k c1 hc hc1 q1 q2 c1 0 (by omega) ?_
    refine a_iload_6 rfl rfl ?_
    refine a_istore_4 rfl rfl rfl ?_
    refine a_iinc_5 rfl rfl (nI_inc _ _) rfl ?_
    refine a_goto rfl rfl ?_
    exact ih (k + 1) c1 _ (by omega) hc1 w1'
theorem r_way (a b i : Int32) : ∃ v G, wyR (frA (h 82)) a b i v ∧ avE 5 290 [.ref 81, .int a, .int b, .int i] (sX L t lt rt rp sw h gl) (some (.int v), sX L t lt rt rp sw (va_up h 91 G) gl) := by
  by_cases ha : inC a
  · by_cases hb : inC b
    · obtain ⟨x, hx, rfl⟩ := inC_of ha
      obtain ⟨y, hy, rfl⟩ := inC_of hb
      by_cases h0 : 0 ≤ i.toInt
      · obtain ⟨j, hj, ej, _⟩ := cell_of (m := 2147483648) h0 (by have := i.toInt_lt; omega)
        subst ej
        have bw := btw_N (frA (h 82)) hy hx
        rcases fr_cases (frA (h 82)) (nI y) x with q | ⟨n, hn, q⟩
        · refine ⟨-2, rw1 30 (farA (h 82) (nI y)) (h 91), ⟨fun w => ?_, fun _ => rfl⟩, ?_⟩
          · have w2 := w.2.2.2
            rw [bw, q, nI_toInt (by omega), show (-1 : Int32).toInt = -1 from by decide] at w2
            omega
          · show avA _ 290 0 [.ref 81, .int (nI (x)), .int (nI (y)), .int (nI (j)), mvU, mvU, mvU] [] _ _
            refine a_iload_1 rfl rfl ?_
            refine a_statI rfl rfl (r_isCell (nI x)) (Nat.le_of_ble_eq_true rfl) ⟨rfl, rfl, rfl⟩ rfl rfl rfl (Nat.le_of_ble_eq_true rfl) rfl ?_
            refine a_ifb_eq rfl rfl rfl (fun c_4 => by first | exact absurd c_4 (not_not_intro ha) | exact absurd (not_not_intro ha) c_4) (fun _ => ?_)
            refine a_iload_2 rfl rfl ?_
            refine a_statI rfl rfl (r_isCell (nI y)) (Nat.le_of_ble_eq_true rfl) ⟨rfl, rfl, rfl⟩ rfl rfl rfl (Nat.le_of_ble_eq_true rfl) rfl ?_
            refine a_ifb_eq rfl rfl rfl (fun c_11 => by first | exact absurd c_11 (not_not_intro hb) | exact absurd (not_not_intro hb) c_11) (fun _ => ?_)
            refine a_iload_3 rfl rfl ?_
            refine a_ifN_ge rfl rfl rfl (by omega) (fun _ => ?_) (fun c_15 => False.elim (c_15))
            refine a_aload_0 rfl rfl ?_
            refine a_iload_2 rfl rfl ?_
            refine a_virt0 rfl rfl (r_layFar (nI y)) (Nat.le_of_ble_eq_true rfl) ⟨rfl, rfl, rfl, rfl⟩ rfl rfl rfl (Nat.le_of_ble_eq_true rfl) rfl rfl ?_
            refine a_aload_0 rfl rfl ?_
            refine a_getr rfl rfl rfl (fun _ _ _ => rfl) rfl ?_
            refine a_iload_1 rfl rfl ?_
            refine a_iald rfl rfl (Or.inl rfl) rfl (by omega) (by decide) ?_
            refine a_as (y := -1) (show rw1 30 (farA (h 82) (nI y)) (h 91) x = -1 from (rw1_lt hx).trans q) ?_
            refine a_iconst (v := (-1)) rfl rfl rfl ?_
            refine a_cmp_eq rfl rfl rfl (fun _ => ?_) (fun c_33 => by first | exact absurd rfl c_33 | exact absurd c_33 rfl)
            refine a_bipush (v := (-2)) rfl rfl rfl ?_
            exact a_iret rfl rfl
        · by_cases hjn : j < n
          · obtain ⟨c, hc, w, _⟩ := wy_ex (frA (h 82)) y x n hy hx hn q (j + 1) (by omega)
            refine ⟨nI c, rw1 30 (farA (h 82) (nI y)) (h 91), ⟨fun _ => ⟨c, by rw [nI_toInt (by omega), nI_toInt (by omega)]; exact w, rfl⟩, fun w => ?_⟩, ?_⟩
            · refine absurd ⟨ha, hb, h0, ?_⟩ w
              rw [bw, q, nI_toInt (by omega), nI_toInt (by omega)]
              omega
            · show avA _ 290 0 [.ref 81, .int (nI (x)), .int (nI (y)), .int (nI (j)), mvU, mvU, mvU] [] _ _
              refine a_iload_1 rfl rfl ?_
              refine a_statI rfl rfl (r_isCell (nI x)) (Nat.le_of_ble_eq_true rfl) ⟨rfl, rfl, rfl⟩ rfl rfl rfl (Nat.le_of_ble_eq_true rfl) rfl ?_
              refine a_ifb_eq rfl rfl rfl (fun c_4 => by first | exact absurd c_4 (not_not_intro ha) | exact absurd (not_not_intro ha) c_4) (fun _ => ?_)
              refine a_iload_2 rfl rfl ?_
              refine a_statI rfl rfl (r_isCell (nI y)) (Nat.le_of_ble_eq_true rfl) ⟨rfl, rfl, rfl⟩ rfl rfl rfl (Nat.le_of_ble_eq_true rfl) rfl ?_
              refine a_ifb_eq rfl rfl rfl (fun c_11 => by first | exact absurd c_11 (not_not_intro hb) | exact absurd (not_not_intro hb) c_11) (fun _ => ?_)
              refine a_iload_3 rfl rfl ?_
              refine a_ifN_ge rfl rfl rfl (by omega) (fun _ => ?_) (fun c_15 => False.elim (c_15))
              refine a_aload_0 rfl rfl ?_
              refine a_iload_2 rfl rfl ?_
              refine a_virt0 rfl rfl (r_layFar (nI y)) (Nat.le_of_ble_eq_true rfl) ⟨rfl, rfl, rfl, rfl⟩ rfl rfl rfl (Nat.le_of_ble_eq_true rfl) rfl rfl ?_
              refine a_aload_0 rfl rfl ?_
              refine a_getr rfl rfl rfl (fun _ _ _ => rfl) rfl ?_
              refine a_iload_1 rfl rfl ?_
              refine a_iald rfl rfl (Or.inl rfl) rfl (by omega) (by decide) ?_
              refine a_as (y := nI n) (show rw1 30 (farA (h 82) (nI y)) (h 91) x = nI n from (rw1_lt hx).trans q) ?_
              refine a_iconst (v := (-1)) rfl rfl rfl ?_
              refine a_cmp_eq rfl rfl rfl (fun c_33 => by first | exact absurd c_33 (nI_ne_m1 (by omega)) | exact absurd (nI_ne_m1 (by omega)) c_33) (fun _ => ?_)
              refine a_iload_3 rfl rfl ?_
              refine a_aload_0 rfl rfl ?_
              refine a_getr rfl rfl rfl (fun _ _ _ => rfl) rfl ?_
              refine a_iload_1 rfl rfl ?_
              refine a_iald rfl rfl (Or.inl rfl) rfl (by omega) (by decide) ?_
              refine a_as (y := nI (n)) (show rw1 30 (farA (h 82) (nI y)) (h 91) x = nI n from (rw1_lt hx).trans q) ?_
              refine a_cmpN_lt rfl rfl rfl (by omega) (by omega) (fun _ => ?_) (fun c_43 => False.elim (by omega))
              refine a_iload_1 rfl rfl ?_
              refine a_istore_4 rfl rfl rfl ?_
              refine a_iconst (v := (nI 0)) rfl rfl rfl ?_
              refine a_istore_5 rfl rfl rfl ?_
              exact l_rway2 (frA (h 82)) y x n j hy hx hn hjn (fun j hj => rw1_lt hj) q c w (j + 1) 0 x _ (by omega) hx rfl
          · refine ⟨-2, rw1 30 (farA (h 82) (nI y)) (h 91), ⟨fun w => ?_, fun _ => rfl⟩, ?_⟩
            · have w2 := w.2.2.2
              rw [bw, q, nI_toInt (by omega), nI_toInt (by omega)] at w2
              omega
            · show avA _ 290 0 [.ref 81, .int (nI (x)), .int (nI (y)), .int (nI (j)), mvU, mvU, mvU] [] _ _
              refine a_iload_1 rfl rfl ?_
              refine a_statI rfl rfl (r_isCell (nI x)) (Nat.le_of_ble_eq_true rfl) ⟨rfl, rfl, rfl⟩ rfl rfl rfl (Nat.le_of_ble_eq_true rfl) rfl ?_
              refine a_ifb_eq rfl rfl rfl (fun c_4 => by first | exact absurd c_4 (not_not_intro ha) | exact absurd (not_not_intro ha) c_4) (fun _ => ?_)
              refine a_iload_2 rfl rfl ?_
              refine a_statI rfl rfl (r_isCell (nI y)) (Nat.le_of_ble_eq_true rfl) ⟨rfl, rfl, rfl⟩ rfl rfl rfl (Nat.le_of_ble_eq_true rfl) rfl ?_
              refine a_ifb_eq rfl rfl rfl (fun c_11 => by first | exact absurd c_11 (not_not_intro hb) | exact absurd (not_not_intro hb) c_11) (fun _ => ?_)
              refine a_iload_3 rfl rfl ?_
              refine a_ifN_ge rfl rfl rfl (by omega) (fun _ => ?_) (fun c_15 => False.elim (c_15))
              refine a_aload_0 rfl rfl ?_
              refine a_iload_2 rfl rfl ?_
              refine a_virt0 rfl rfl (r_layFar (nI y)) (Nat.le_of_ble_eq_true rfl) ⟨rfl, rfl, rfl, rfl⟩ rfl rfl rfl (Nat.le_of_ble_eq_true rfl) rfl rfl ?_
              refine a_aload_0 rfl rfl ?_
              refine a_getr rfl rfl rfl (fun _ _ _ => rfl) rfl ?_
              refine a_iload_1 rfl rfl ?_
              refine a_iald rfl rfl (Or.inl rfl) rfl (by omega) (by decide) ?_
              refine a_as (y := nI n) (show rw1 30 (farA (h 82) (nI y)) (h 91) x = nI n from (rw1_lt hx).trans q) ?_
              refine a_iconst (v := (-1)) rfl rfl rfl ?_
              refine a_cmp_eq rfl rfl rfl (fun c_33 => by first | exact absurd c_33 (nI_ne_m1 (by omega)) | exact absurd (nI_ne_m1 (by omega)) c_33) (fun _ => ?_)
              refine a_iload_3 rfl rfl ?_
              refine a_aload_0 rfl rfl ?_
              refine a_getr rfl rfl rfl (fun _ _ _ => rfl) rfl ?_
              refine a_iload_1 rfl rfl ?_
              refine a_iald rfl rfl (Or.inl rfl) rfl (by omega) (by decide) ?_
              refine a_as (y := nI (n)) (show rw1 30 (farA (h 82) (nI y)) (h 91) x = nI n from (rw1_lt hx).trans q) ?_
              refine a_cmpN_lt rfl rfl rfl (by omega) (by omega) (fun c_43 => False.elim (by omega)) (fun _ => ?_)
              refine a_bipush (v := (-2)) rfl rfl rfl ?_
              exact a_iret rfl rfl
      · refine ⟨-2, h 91, ⟨fun w => absurd w.2.2.1 h0, fun _ => rfl⟩, ?_⟩
        rw [up_id]
        show avA _ 290 0 [.ref 81, .int (nI (x)), .int (nI (y)), .int (i), mvU, mvU, mvU] [] _ _
        refine a_iload_1 rfl rfl ?_
        refine a_statI rfl rfl (r_isCell (nI x)) (Nat.le_of_ble_eq_true rfl) ⟨rfl, rfl, rfl⟩ rfl rfl rfl (Nat.le_of_ble_eq_true rfl) rfl ?_
        refine a_ifb_eq rfl rfl rfl (fun c_4 => by first | exact absurd c_4 (not_not_intro ha) | exact absurd (not_not_intro ha) c_4) (fun _ => ?_)
        refine a_iload_2 rfl rfl ?_
        refine a_statI rfl rfl (r_isCell (nI y)) (Nat.le_of_ble_eq_true rfl) ⟨rfl, rfl, rfl⟩ rfl rfl rfl (Nat.le_of_ble_eq_true rfl) rfl ?_
        refine a_ifb_eq rfl rfl rfl (fun c_11 => by first | exact absurd c_11 (not_not_intro hb) | exact absurd (not_not_intro hb) c_11) (fun _ => ?_)
        refine a_iload_3 rfl rfl ?_
        refine a_ifI_ge rfl rfl rfl rfl (fun c_15 => by first | exact absurd c_15 h0 | exact absurd h0 c_15) (fun _ => ?_)
        refine a_bipush (v := (-2)) rfl rfl rfl ?_
        exact a_iret rfl rfl
    · refine ⟨-2, h 91, ⟨fun w => absurd w.2.1 hb, fun _ => rfl⟩, ?_⟩
      rw [up_id]
      show avA _ 290 0 [.ref 81, .int (a), .int (b), .int (i), mvU, mvU, mvU] [] _ _
      refine a_iload_1 rfl rfl ?_
      refine a_statI rfl rfl (r_isCell a) (Nat.le_of_ble_eq_true rfl) ⟨rfl, rfl, rfl⟩ rfl rfl rfl (Nat.le_of_ble_eq_true rfl) rfl ?_
      refine a_ifb_eq rfl rfl rfl (fun c_4 => by first | exact absurd c_4 (not_not_intro ha) | exact absurd (not_not_intro ha) c_4) (fun _ => ?_)
      refine a_iload_2 rfl rfl ?_
      refine a_statI rfl rfl (r_isCell b) (Nat.le_of_ble_eq_true rfl) ⟨rfl, rfl, rfl⟩ rfl rfl rfl (Nat.le_of_ble_eq_true rfl) rfl ?_
      refine a_ifb_eq rfl rfl rfl (fun _ => ?_) (fun c_11 => by first | exact absurd hb c_11 | exact absurd c_11 hb)
      refine a_bipush (v := (-2)) rfl rfl rfl ?_
      exact a_iret rfl rfl
  · refine ⟨-2, h 91, ⟨fun w => absurd w.1 ha, fun _ => rfl⟩, ?_⟩
    rw [up_id]
    show avA _ 290 0 [.ref 81, .int (a), .int (b), .int (i), mvU, mvU, mvU] [] _ _
    refine a_iload_1 rfl rfl ?_
    refine a_statI rfl rfl (r_isCell a) (Nat.le_of_ble_eq_true rfl) ⟨rfl, rfl, rfl⟩ rfl rfl rfl (Nat.le_of_ble_eq_true rfl) rfl ?_
    refine a_ifb_eq rfl rfl rfl (fun _ => ?_) (fun c_4 => by first | exact absurd ha c_4 | exact absurd c_4 ha)
    refine a_bipush (v := (-2)) rfl rfl rfl ?_
    exact a_iret rfl rfl
theorem grow_p {th p q : Nat → Bool} (h : ∀ j, j < 30 → p j = q j) {i : Nat} : ∀ j, j < 30 → grow th p i j = grow th q i j := by
  induction i with
  | zero => intro j hj; show (p j && th j) = (q j && th j); rw [h j hj]
  | succ i ih =>
    intro j hj
    show ((grow th p i j || nb (grow th p i) j) && th j) = ((grow th q i j || nb (grow th q i) j) && th j)
    rw [ih j hj, nb_ext ih j hj]
/-- a room: all that is reached -/
def rmS (op : Nat → Bool) (x : Int32) : Nat → Bool := fun j => decide (frF op x j ≠ -1)
theorem rmS_grow (op : Nat → Bool) (x : Int32) : bsI 30 (rmS op x) = bsI 30 (grow op (sgl x) 30) := by
  refine bs_ext fun j hj => ?_
  unfold rmS frF
  rw [grow_29 _ _ j hj]
  cases c : grow op (sgl x) 29 j
  · have : fk (grow op (sgl x)) 30 j = -1 := (fk_neg_iff (by omega)).mpr c
    rw [this]
    decide
  · have : fk (grow op (sgl x)) 30 j ≠ -1 := fk_set c (by omega)
    simp [this]
theorem l_roomOf (x : Int32) (X : Nat → Int32) (hX : ∀ j, j < 30 → h 91 j = X j) (m : Nat) : ∀ i, i + m = 30 → avA 5 284 9 [.ref 81, .int x, .int (bsI i (fun j => decide (X j ≠ -1))), .int (nI i)] [] (sX L t lt rt rp sw h gl) (some (.int (bsI 30 (fun j => decide (X j ≠ -1)))), sX L t lt rt rp sw h gl) := by
  induction m with
  | zero =>
    intro i hi
    have e : i = 30 := by omega
    subst e
    refine a_iload_3 rfl rfl ?_
    refine a_bipush (v := (nI 30)) rfl rfl rfl ?_
    refine a_cmpN_ge rfl rfl rfl (by omega) (by omega) (fun _ => ?_) (fun c_12 => absurd c_12 (by decide))
    refine a_iload_2 rfl rfl ?_
    exact a_iret rfl rfl
  | succ m ih =>
    intro i hi
    refine a_iload_3 rfl rfl ?_
    refine a_bipush (v := (nI 30)) rfl rfl rfl ?_
    refine a_cmpN_ge rfl rfl rfl (by omega) (by omega) (fun c_12 => False.elim (by omega)) (fun _ => ?_)
    refine a_iload_2 rfl rfl ?_
    refine a_aload_0 rfl rfl ?_
    refine a_getr rfl rfl rfl (fun _ _ _ => rfl) rfl ?_
    refine a_iload_3 rfl rfl ?_
    refine a_iald rfl rfl (Or.inl rfl) rfl (by omega) (by decide) ?_
    refine a_as (y := _) (hX i (by omega)) ?_
    refine a_iconst (v := (-1)) rfl rfl rfl ?_
    refine a_cmp_eq rfl rfl rfl (fun c_23 => ?_) (fun c_23 => ?_)
    · refine a_iconst (v := (nI 0)) rfl rfl rfl ?_
      refine a_ior rfl rfl ?_
      refine a_istore_2 rfl rfl rfl ?_
      refine a_iinc_3 rfl rfl (nI_inc _ _) rfl ?_
      refine a_goto rfl rfl ?_
      have e := ih (i + 1) (by omega)
      first | (rw [← bs_succT (by omega) (by simpa using c_23)] at e; exact e) | (rw [bs_succF (by simpa using c_23)] at e; rw [show nI 0 = 0 from rfl, Int32.or_zero]; exact e)
    · refine a_iconst (v := (nI 1)) rfl rfl rfl ?_
      refine a_iload_3 rfl rfl ?_
      refine a_ishl rfl rfl ?_
      refine a_goto rfl rfl ?_
      refine a_ior rfl rfl ?_
      refine a_istore_2 rfl rfl rfl ?_
      refine a_iinc_3 rfl rfl (nI_inc _ _) rfl ?_
      refine a_goto rfl rfl ?_
      have e := ih (i + 1) (by omega)
      first | (rw [← bs_succT (by omega) (by simpa using c_23)] at e; exact e) | (rw [bs_succF (by simpa using c_23)] at e; rw [show nI 0 = 0 from rfl, Int32.or_zero]; exact e)
theorem r_roomOf (x : Int32) : avE 5 284 [.ref 81, .int x] (sX L t lt rt rp sw h gl) (some (.int (bsI 30 (rmS (frA (h 82)) x))), sX L t lt rt rp sw (va_up h 91 (rw1 30 (farA (h 82) x) (h 91))) gl) := by
  show avA _ 284 0 [.ref 81, .int (x), mvU, mvU] [] _ _
  refine a_aload_0 rfl rfl ?_
  refine a_iload_1 rfl rfl ?_
  refine a_virt0 rfl rfl (r_layFar x) (Nat.le_of_ble_eq_true rfl) ⟨rfl, rfl, rfl, rfl⟩ rfl rfl rfl (Nat.le_of_ble_eq_true rfl) rfl rfl ?_
  refine a_iconst (v := (nI 0)) rfl rfl rfl ?_
  refine a_istore_2 rfl rfl rfl ?_
  refine a_iconst (v := (nI 0)) rfl rfl rfl ?_
  refine a_istore_3 rfl rfl rfl ?_
  exact l_roomOf x (farA (h 82) x) (fun j hj => rw1_lt hj) 30 0 rfl
abbrev opI (op : Nat → Bool) (c : Int32) : Prop := 0 ≤ c.toInt ∧ c.toInt < 30 ∧ op c.toInt.toNat = true
theorem frI_op (A : Nat → Int32) (c : Int32) : frI A c ↔ opI (frA A) c := by
  unfold frI opI frA
  simp only [decide_eq_true_eq]
theorem e_isFree (op : Nat → Bool) (hop : h 9 0 = bsI 30 op) (c : Int32) : avE 1 30 [.ref 7, .int c] (sX L t lt rt rp sw h gl) (some (.int (bI (opI op c))), sX L t lt rt rp sw h gl) := by
  by_cases hc : inC c
  · obtain ⟨n, hn, rfl⟩ := inC_of hc
    have e : op (nI n).toInt.toNat = op n := by rw [nI_toInt (by omega)]; rfl
    show avA _ 30 0 [.ref 7, .int (nI (n))] [] _ _
    refine a_iload_1 rfl rfl ?_
    refine a_statI rfl rfl (e_isCell (nI n)) (Nat.le_of_ble_eq_true rfl) ⟨rfl, rfl, rfl⟩ rfl rfl rfl (Nat.le_of_ble_eq_true rfl) rfl ?_
    refine a_ifb_eq rfl rfl rfl (fun c_4 => by first | exact absurd c_4 (not_not_intro hc) | exact absurd (not_not_intro hc) c_4) (fun _ => ?_)
    refine a_aload_0 rfl rfl ?_
    refine a_getr rfl rfl rfl (fun _ _ _ => rfl) rfl ?_
    refine a_geti rfl rfl rfl (fun _ _ _ => rfl) ?_
    refine a_as (y := _) hop ?_
    refine a_iload_1 rfl rfl ?_
    refine a_statI rfl rfl (e_has (bsI 30 op) n (by omega)) (Nat.le_of_ble_eq_true rfl) ⟨rfl, rfl, rfl⟩ rfl rfl rfl (Nat.le_of_ble_eq_true rfl) rfl ?_
    refine a_ifb_eq rfl rfl rfl (fun c_18 => ?_) (fun c_18 => ?_)
    · refine a_iconst (v := (nI 0)) rfl rfl rfl ?_
      refine av_to (a_zret rfl rfl (Or.inl rfl)) (bz0 ?_)
      rw [tb_bs (by omega)] at c_18; simp [hn] at c_18; unfold opI; rw [e, c_18]; first | exact ⟨hc.1, hc.2, rfl⟩ | simp
    · refine a_iconst (v := (nI 1)) rfl rfl rfl ?_
      refine a_goto rfl rfl ?_
      refine av_to (a_zret rfl rfl (Or.inr rfl)) (bz1 ?_)
      rw [tb_bs (by omega)] at c_18; simp [hn] at c_18; unfold opI; rw [e, c_18]; first | exact ⟨hc.1, hc.2, rfl⟩ | simp
  · show avA _ 30 0 [.ref 7, .int (c)] [] _ _
    refine a_iload_1 rfl rfl ?_
    refine a_statI rfl rfl (e_isCell c) (Nat.le_of_ble_eq_true rfl) ⟨rfl, rfl, rfl⟩ rfl rfl rfl (Nat.le_of_ble_eq_true rfl) rfl ?_
    refine a_ifb_eq rfl rfl rfl (fun _ => ?_) (fun c_4 => by first | exact absurd hc c_4 | exact absurd c_4 hc)
    refine a_iconst (v := (nI 0)) rfl rfl rfl ?_
    refine av_to (a_zret rfl rfl (Or.inl rfl)) (bz0 ?_)
    exact fun q => hc ⟨q.1, q.2.1⟩
def rmV (op : Nat → Bool) (c : Int32) : Int32 := if opI op c then bsI 30 (rmS op c) else -1
theorem c_room (op : Nat → Bool) (hop : h 9 0 = bsI 30 op) (c : Int32) : avE 2 136 [.ref 7, .int c] (sX L t lt rt rp sw h gl) (some (.int (rmV op c)), sX L t lt rt rp sw h gl) := by
  by_cases hc : opI op c
  · obtain ⟨n, hn, rfl⟩ := inC_of ⟨hc.1, hc.2.1⟩
    unfold rmV
    rw [if_pos hc, rmS_grow]
    have e1 : bsI 30 (grow op (fun j => decide (j = n)) 30) = bsI 30 (grow op (sgl (nI n)) 30) := bs_ext (grow_p fun j hj => decide_eq_decide.mpr ⟨fun q => by rw [q], fun q => ((nI_eq (by omega) (by omega)).mp q).symm⟩)
    rw [← e1]
    show avA _ 136 0 [.ref 7, .int (nI (n))] [] _ _
    refine a_aload_0 rfl rfl ?_
    refine a_iload_1 rfl rfl ?_
    refine a_virtI rfl rfl (e_isFree op hop (nI n)) (Nat.le_of_ble_eq_true rfl) ⟨rfl, rfl, rfl, rfl⟩ rfl rfl rfl (Nat.le_of_ble_eq_true rfl) rfl rfl ?_
    refine a_ifb_eq rfl rfl rfl (fun c_5 => by first | exact absurd c_5 (not_not_intro hc) | exact absurd (not_not_intro hc) c_5) (fun _ => ?_)
    refine a_iconst (v := (nI 1)) rfl rfl rfl ?_
    refine a_iload_1 rfl rfl ?_
    refine a_ishl rfl rfl ?_
    refine a_as (y := _) (bs_one (n := 30) (by omega) hn) ?_
    refine a_aload_0 rfl rfl ?_
    refine a_getr rfl rfl rfl (fun _ _ _ => rfl) rfl ?_
    refine a_geti rfl rfl rfl (fun _ _ _ => rfl) ?_
    refine a_as (y := _) hop ?_
    refine a_statI rfl rfl (e_reach _ _) (Nat.le_of_ble_eq_true rfl) ⟨rfl, rfl, rfl⟩ rfl rfl rfl (Nat.le_of_ble_eq_true rfl) rfl ?_
    refine a_goto rfl rfl ?_
    exact a_iret rfl rfl
  · unfold rmV
    rw [if_neg hc]
    show avA _ 136 0 [.ref 7, .int (c)] [] _ _
    refine a_aload_0 rfl rfl ?_
    refine a_iload_1 rfl rfl ?_
    refine a_virtI rfl rfl (e_isFree op hop c) (Nat.le_of_ble_eq_true rfl) ⟨rfl, rfl, rfl, rfl⟩ rfl rfl rfl (Nat.le_of_ble_eq_true rfl) rfl rfl ?_
    refine a_ifb_eq rfl rfl rfl (fun _ => ?_) (fun c_5 => by first | exact absurd hc c_5 | exact absurd c_5 hc)
    refine a_iconst (v := (-1)) rfl rfl rfl ?_
    exact a_iret rfl rfl
theorem r_room (c : Int32) : ∃ G, avE 6 291 [.ref 81, .int c] (sX L t lt rt rp sw h gl) (some (.int (rmV (frA (h 82)) c)), sX L t lt rt rp sw (va_up h 91 G) gl) := by
  unfold rmV
  by_cases hc : opI (frA (h 82)) c
  · rw [if_pos hc]
    refine ⟨rw1 30 (farA (h 82) c) (h 91), ?_⟩
    show avA _ 291 0 [.ref 81, .int (c)] [] _ _
    refine a_aload_0 rfl rfl ?_
    refine a_iload_1 rfl rfl ?_
    refine a_virtI rfl rfl (r_isFree c) (Nat.le_of_ble_eq_true rfl) ⟨rfl, rfl, rfl, rfl⟩ rfl rfl rfl (Nat.le_of_ble_eq_true rfl) rfl rfl ?_
    refine a_ifb_eq rfl rfl rfl (fun c_5 => by first | exact absurd c_5 (not_not_intro ((frI_op _ _).mpr hc)) | exact absurd (not_not_intro ((frI_op _ _).mpr hc)) c_5) (fun _ => ?_)
    refine a_aload_0 rfl rfl ?_
    refine a_iload_1 rfl rfl ?_
    refine a_virtI rfl rfl (r_roomOf c) (Nat.le_of_ble_eq_true rfl) ⟨rfl, rfl, rfl, rfl⟩ rfl rfl rfl (Nat.le_of_ble_eq_true rfl) rfl rfl ?_
    refine a_goto rfl rfl ?_
    exact a_iret rfl rfl
  · rw [if_neg hc]
    refine ⟨h 91, ?_⟩
    rw [up_id]
    show avA _ 291 0 [.ref 81, .int (c)] [] _ _
    refine a_aload_0 rfl rfl ?_
    refine a_iload_1 rfl rfl ?_
    refine a_virtI rfl rfl (r_isFree c) (Nat.le_of_ble_eq_true rfl) ⟨rfl, rfl, rfl, rfl⟩ rfl rfl rfl (Nat.le_of_ble_eq_true rfl) rfl rfl ?_
    refine a_ifb_eq rfl rfl rfl (fun _ => ?_) (fun c_5 => by first | exact absurd (fun q => hc ((frI_op _ _).mp q)) c_5 | exact absurd c_5 (fun q => hc ((frI_op _ _).mp q)))
    refine a_iconst (v := (-1)) rfl rfl rfl ?_
    exact a_iret rfl rfl
end RZ
