/-! CELLS, BEASTS, TIME, THE BOOK -/
theorem rPth_ext {op op' : Nat → Bool} {F G : Nat → Int32} (e : ∀ j, j < 30 → op j = op' j) (hP : rPth op F G) : rPth op' F G := by
  obtain ⟨h0, ms, h1, hr⟩ := hP
  refine ⟨by rw [h0]; exact bs_ext e, ms, h1, fun f hf q c hc => ?_⟩
  rw [hr f hf q c hc]
  have g : ∀ i j, j < 30 → grow op (sgl (nI f)) i j = grow op' (sgl (nI f)) i j := by
    intro i
    induction i with
    | zero => intro j hj; show (_ && op j) = (_ && op' j); rw [e j hj]
    | succ i ih =>
      intro j hj
      show ((grow _ _ i j || nb (grow _ _ i) j) && op j) = ((grow _ _ i j || nb (grow _ _ i) j) && op' j)
      rw [ih j hj, nb_ext ih j hj, e j hj]
  have k : ∀ n, fk (grow op (sgl (nI f))) n c = fk (grow op' (sgl (nI f))) n c := by
    intro n
    induction n with
    | zero => rfl
    | succ n ih => rw [fk, fk, ih, g n c hc]
  exact k 30
def noW (K : Nat → Int32) : Nat → Bool := fun j => decide (K j ≠ nI 1)
def bAt (at_ : Nat → Int32) (n : Nat) (c : Int32) : Int32 := bsI n (fun b => decide (at_ b = c))
section CE
variable {L t : Nat} {lt rt rp : Option Nat} {sw : Bool} {h : Nat → Nat → Int32} {gl : Nat → Nat → Int64}
theorem l_noWall (m : Nat) : ∀ i, i + m = 30 → avA 0 25 4 [.ref 11, .int (bsI i (noW (h 12))), .int (nI i)] [] (sX L t lt rt rp sw h gl) (some (.int (bsI 30 (noW (h 12)))), sX L t lt rt rp sw h gl) := by
  induction m with
  | zero =>
    intro i hi
    have e : i = 30 := by omega
    subst e
    refine a_iload_2 rfl rfl ?_
    refine a_bipush (v := (nI 30)) rfl rfl rfl ?_
    refine a_cmpN_ge rfl rfl rfl (by omega) (by omega) (fun _ => ?_) (fun c_7 => absurd c_7 (by decide))
    refine a_iload_1 rfl rfl ?_
    exact a_iret rfl rfl
  | succ m ih =>
    intro i hi
    refine a_iload_2 rfl rfl ?_
    refine a_bipush (v := (nI 30)) rfl rfl rfl ?_
    refine a_cmpN_ge rfl rfl rfl (by omega) (by omega) (fun c_7 => False.elim (by omega)) (fun _ => ?_)
    refine a_aload_0 rfl rfl ?_
    refine a_getr rfl rfl rfl (fun _ _ _ => rfl) rfl ?_
    refine a_iload_2 rfl rfl ?_
    refine a_iald rfl rfl (Or.inl rfl) rfl (by omega) (by decide) ?_
    refine a_iconst (v := (nI 1)) rfl rfl rfl ?_
    refine a_cmp_eq rfl rfl rfl (fun c_17 => ?_) (fun c_17 => ?_)
    · refine a_iinc_2 rfl rfl (nI_inc _ _) rfl ?_
      refine a_goto rfl rfl ?_
      have e := ih (i + 1) (by omega)
      first | (rw [← bs_succT (by omega) (decide_eq_true c_17)] at e; exact e) | (rw [bs_succF (decide_eq_false (fun q => q c_17))] at e; exact e)
    · refine a_iload_1 rfl rfl ?_
      refine a_iconst (v := (nI 1)) rfl rfl rfl ?_
      refine a_iload_2 rfl rfl ?_
      refine a_ishl rfl rfl ?_
      refine a_ior rfl rfl ?_
      refine a_istore_1 rfl rfl rfl ?_
      refine a_iinc_2 rfl rfl (nI_inc _ _) rfl ?_
      refine a_goto rfl rfl ?_
      have e := ih (i + 1) (by omega)
      first | (rw [← bs_succT (by omega) (decide_eq_true c_17)] at e; exact e) | (rw [bs_succF (decide_eq_false (fun q => q c_17))] at e; exact e)
theorem e_noWall : avE 0 25 [.ref 11] (sX L t lt rt rp sw h gl) (some (.int (bsI 30 (noW (h 12)))), sX L t lt rt rp sw h gl) := by
  show avA _ 25 0 [.ref 11, mvU, mvU] [] _ _
  refine a_iconst (v := (nI 0)) rfl rfl rfl ?_
  refine a_istore_1 rfl rfl rfl ?_
  refine a_iconst (v := (nI 0)) rfl rfl rfl ?_
  refine a_istore_2 rfl rfl rfl ?_
  exact l_noWall 30 0 rfl
theorem e_setOpen (op op' : Nat → Bool) (hP : rPth op (h 9) (h 10)) : ∃ F, avE 0 26 [.ref 9, .int (bsI 30 op')] (sX L t lt rt rp sw h gl) (none, sX L t lt rt rp sw (va_up h 9 F) gl) ∧ rPth op' F (h 10) := by
  by_cases e : bsI 30 op' = bsI 30 op
  · refine ⟨h 9, ?_, rPth_ext (fun j hj => (bs_inj (by omega) e j hj).symm) hP⟩
    rw [up_id]
    show avA _ 26 0 [.ref 9, .int (_)] [] _ _
    refine a_iload_1 rfl rfl ?_
    refine a_aload_0 rfl rfl ?_
    refine a_geti rfl rfl rfl (fun _ _ _ => rfl) ?_
    refine a_as (y := _) hP.1 ?_
    refine a_cmp_eq rfl rfl rfl (fun _ => ?_) (fun c_5 => by first | exact absurd e c_5 | exact absurd c_5 e)
    exact a_vret rfl rfl
  · refine ⟨va_up (va_up (h 9) 0 (bsI 30 op')) 1 (nI 0), ?_, rfl, fun _ => false, (bs_zero 30).symm, fun f _ q => absurd (show false = true from q) (by decide)⟩
    show avA _ 26 0 [.ref 9, .int (_)] [] _ _
    refine a_iload_1 rfl rfl ?_
    refine a_aload_0 rfl rfl ?_
    refine a_geti rfl rfl rfl (fun _ _ _ => rfl) ?_
    refine a_as (y := _) hP.1 ?_
    refine a_cmp_eq rfl rfl rfl (fun c_5 => by first | exact absurd c_5 e | exact absurd e c_5) (fun _ => ?_)
    refine a_aload_0 rfl rfl ?_
    refine a_iload_1 rfl rfl ?_
    refine a_puti rfl rfl rfl rfl ?_
    refine a_aload_0 rfl rfl ?_
    refine a_iconst (v := (nI 0)) rfl rfl rfl ?_
    refine a_puti rfl rfl rfl rfl ?_
    refine av_to (a_vret rfl rfl) ?_
    rw [put_rows]
theorem e_cellsChanged (op : Nat → Bool) (hP : rPth op (h 9) (h 10)) : ∃ F, avE 1 24 [.ref 7] (sX L t lt rt rp sw h gl) (none, sX L t lt rt rp sw (mvPut (va_up h 9 F) 8 9 (h 8 9 + nI 1)) gl) ∧ rPth (noW (h 12)) F (h 10) := by
  obtain ⟨F, C, hF⟩ := e_setOpen (L := L) (t := t) (lt := lt) (rt := rt) (rp := rp) (sw := sw) (gl := gl) op (noW (h 12)) hP
  refine ⟨F, ?_, hF⟩
  show avA _ 24 0 [.ref 7] [] _ _
  refine a_aload_0 rfl rfl ?_
  refine a_getr rfl rfl rfl (fun _ _ _ => rfl) rfl ?_
  refine a_aload_0 rfl rfl ?_
  refine a_getr rfl rfl rfl (fun _ _ _ => rfl) rfl ?_
  refine a_virtI rfl rfl (e_noWall) (Nat.le_of_ble_eq_true rfl) ⟨rfl, rfl, rfl, rfl⟩ rfl rfl rfl (Nat.le_of_ble_eq_true rfl) rfl rfl ?_
  refine a_virt0 rfl rfl (C) (Nat.le_of_ble_eq_true rfl) ⟨rfl, rfl, rfl, rfl⟩ rfl rfl rfl (Nat.le_of_ble_eq_true rfl) rfl rfl ?_
  refine a_aload_0 rfl rfl ?_
  refine a_getr rfl rfl rfl (fun _ _ _ => rfl) rfl ?_
  refine a_virt0 rfl rfl (e_forget) (Nat.le_of_ble_eq_true rfl) ⟨rfl, rfl, rfl, rfl⟩ rfl rfl rfl (Nat.le_of_ble_eq_true rfl) rfl rfl ?_
  exact a_vret rfl rfl
theorem l_beastsAt (c : Int32) (n : Nat) (hn : n ≤ 5) (hb : h 14 4 = nI n) (m : Nat) : ∀ i, i + m = n → avA 0 23 4 [.ref 14, .int c, .int (bsI i (fun b => decide (h 15 b = c))), .int (nI i)] [] (sX L t lt rt rp sw h gl) (some (.int (bAt (h 15) n c)), sX L t lt rt rp sw h gl) := by
  induction m with
  | zero =>
    intro i hi
    have e : i = n := by omega
    subst e
    refine a_iload_3 rfl rfl ?_
    refine a_aload_0 rfl rfl ?_
    refine a_geti rfl rfl rfl (fun _ _ _ => rfl) ?_
    refine a_as (y := nI (i)) hb ?_
    refine a_cmpN_ge rfl rfl rfl (by omega) (by omega) (fun _ => ?_) (fun c_9 => False.elim (by omega))
    refine a_iload_2 rfl rfl ?_
    exact a_iret rfl rfl
  | succ m ih =>
    intro i hi
    refine a_iload_3 rfl rfl ?_
    refine a_aload_0 rfl rfl ?_
    refine a_geti rfl rfl rfl (fun _ _ _ => rfl) ?_
    refine a_as (y := nI (n)) hb ?_
    refine a_cmpN_ge rfl rfl rfl (by omega) (by omega) (fun c_9 => False.elim (by omega)) (fun _ => ?_)
    refine a_aload_0 rfl rfl ?_
    refine a_getr rfl rfl rfl (fun _ _ _ => rfl) rfl ?_
    refine a_iload_3 rfl rfl ?_
    refine a_iald rfl rfl (Or.inl rfl) rfl (by omega) (by decide) ?_
    refine a_iload_1 rfl rfl ?_
    refine a_cmp_ne rfl rfl rfl (fun c_19 => ?_) (fun c_19 => ?_)
    · refine a_iinc_3 rfl rfl (nI_inc _ _) rfl ?_
      refine a_goto rfl rfl ?_
      have e := ih (i + 1) (by omega)
      first | (rw [← bs_succT (by omega) (decide_eq_true c_19)] at e; exact e) | (rw [bs_succF (decide_eq_false c_19)] at e; exact e)
    · refine a_iload_2 rfl rfl ?_
      refine a_iconst (v := (nI 1)) rfl rfl rfl ?_
      refine a_iload_3 rfl rfl ?_
      refine a_ishl rfl rfl ?_
      refine a_ior rfl rfl ?_
      refine a_istore_2 rfl rfl rfl ?_
      refine a_iinc_3 rfl rfl (nI_inc _ _) rfl ?_
      refine a_goto rfl rfl ?_
      have e := ih (i + 1) (by omega)
      first | (rw [← bs_succT (by omega) (decide_eq_true c_19)] at e; exact e) | (rw [bs_succF (decide_eq_false c_19)] at e; exact e)
theorem e_beastsAt (c : Int32) (n : Nat) (hn : n ≤ 5) (hb : h 14 4 = nI n) : avE 0 23 [.ref 14, .int c] (sX L t lt rt rp sw h gl) (some (.int (bAt (h 15) n c)), sX L t lt rt rp sw h gl) := by
  show avA _ 23 0 [.ref 14, .int (c), mvU, mvU] [] _ _
  refine a_iconst (v := (nI 0)) rfl rfl rfl ?_
  refine a_istore_2 rfl rfl rfl ?_
  refine a_iconst (v := (nI 0)) rfl rfl rfl ?_
  refine a_istore_3 rfl rfl rfl ?_
  exact l_beastsAt c n hn hb n 0 (by omega)
theorem r_get (b k : Nat) (hb : b < 5) (hk : k < 5) : avE 0 187 [.ref 81, .int (nI b), .int (nI k)] (sX L t lt rt rp sw h gl) (some (.int (h 82 (13 + 5 * b + k))), sX L t lt rt rp sw h gl) := by
  show avA _ 187 0 [.ref 81, .int (nI (b)), .int (nI (k))] [] _ _
  refine a_aload_0 rfl rfl ?_
  refine a_getr rfl rfl rfl (fun _ _ _ => rfl) rfl ?_
  refine a_bipush (v := (nI 13)) rfl rfl rfl ?_
  refine a_iconst (v := (nI 5)) rfl rfl rfl ?_
  refine a_iload_1 rfl rfl ?_
  refine a_imulN rfl rfl ?_
  refine a_iaddN rfl rfl ?_
  refine a_iload_2 rfl rfl ?_
  refine a_iaddN rfl rfl ?_
  refine a_iald rfl rfl (Or.inl rfl) rfl (by omega) (by decide) ?_
  exact a_iret rfl rfl
theorem r_put (b k : Nat) (v : Int32) (hb : b < 5) (hk : k < 5) : avE 0 191 [.ref 81, .int (nI b), .int (nI k), .int v] (sX L t lt rt rp sw h gl) (none, sX L t lt rt rp sw (mvPut h 82 (13 + 5 * b + k) v) gl) := by
  show avA _ 191 0 [.ref 81, .int (nI (b)), .int (nI (k)), .int (v)] [] _ _
  refine a_aload_0 rfl rfl ?_
  refine a_getr rfl rfl rfl (fun _ _ _ => rfl) rfl ?_
  refine a_bipush (v := (nI 13)) rfl rfl rfl ?_
  refine a_iconst (v := (nI 5)) rfl rfl rfl ?_
  refine a_iload_1 rfl rfl ?_
  refine a_imulN rfl rfl ?_
  refine a_iaddN rfl rfl ?_
  refine a_iload_2 rfl rfl ?_
  refine a_iaddN rfl rfl ?_
  refine a_iload_3 rfl rfl ?_
  refine a_iast rfl rfl rfl rfl (by omega) (by decide) ?_
  exact a_vret rfl rfl
theorem l_rbeastsAt (c : Int32) (n : Nat) (hn : n ≤ 5) (hb : h 82 0 = nI n) (m : Nat) : ∀ i, i + m = n → avA 1 186 4 [.ref 81, .int c, .int (bsI i (fun b => decide (h 82 (13 + 5 * b) = c))), .int (nI i)] [] (sX L t lt rt rp sw h gl) (some (.int (bAt (fun b => h 82 (13 + 5 * b)) n c)), sX L t lt rt rp sw h gl) := by
  induction m with
  | zero =>
    intro i hi
    have e : i = n := by omega
    subst e
    refine a_iload_3 rfl rfl ?_
    refine a_aload_0 rfl rfl ?_
    refine a_getr rfl rfl rfl (fun _ _ _ => rfl) rfl ?_
    refine a_iconst (v := (nI 0)) rfl rfl rfl ?_
    refine a_iald rfl rfl (Or.inl rfl) rfl (by omega) (by decide) ?_
    refine a_as (y := nI (i)) hb ?_
    refine a_cmpN_ge rfl rfl rfl (by omega) (by omega) (fun _ => ?_) (fun c_11 => False.elim (by omega))
    refine a_iload_2 rfl rfl ?_
    exact a_iret rfl rfl
  | succ m ih =>
    intro i hi
    refine a_iload_3 rfl rfl ?_
    refine a_aload_0 rfl rfl ?_
    refine a_getr rfl rfl rfl (fun _ _ _ => rfl) rfl ?_
    refine a_iconst (v := (nI 0)) rfl rfl rfl ?_
    refine a_iald rfl rfl (Or.inl rfl) rfl (by omega) (by decide) ?_
    refine a_as (y := nI (n)) hb ?_
    refine a_cmpN_ge rfl rfl rfl (by omega) (by omega) (fun c_11 => False.elim (by omega)) (fun _ => ?_)
    refine a_iload_2 rfl rfl ?_
    refine a_aload_0 rfl rfl ?_
    refine a_iload_3 rfl rfl ?_
    refine a_iconst (v := (nI 0)) rfl rfl rfl ?_
    refine a_virtI rfl rfl (r_get i 0 (by omega) (by omega)) (Nat.le_of_ble_eq_true rfl) ⟨rfl, rfl, rfl, rfl⟩ rfl rfl rfl (Nat.le_of_ble_eq_true rfl) rfl rfl ?_
    refine a_iload_1 rfl rfl ?_
    refine a_cmp_ne rfl rfl rfl (fun c_22 => ?_) (fun c_22 => ?_)
    · refine a_iconst (v := (nI 0)) rfl rfl rfl ?_
      refine a_ior rfl rfl ?_
      refine a_istore_2 rfl rfl rfl ?_
      refine a_iinc_3 rfl rfl (nI_inc _ _) rfl ?_
      refine a_goto rfl rfl ?_
      have e := ih (i + 1) (by omega)
      first | (rw [← bs_succT (by omega) (decide_eq_true c_22)] at e; exact e) | (rw [bs_succF (decide_eq_false c_22)] at e; rw [show nI 0 = 0 from rfl, Int32.or_zero]; exact e)
    · refine a_iconst (v := (nI 1)) rfl rfl rfl ?_
      refine a_iload_3 rfl rfl ?_
      refine a_ishl rfl rfl ?_
      refine a_goto rfl rfl ?_
      refine a_ior rfl rfl ?_
      refine a_istore_2 rfl rfl rfl ?_
      refine a_iinc_3 rfl rfl (nI_inc _ _) rfl ?_
      refine a_goto rfl rfl ?_
      have e := ih (i + 1) (by omega)
      first | (rw [← bs_succT (by omega) (decide_eq_true c_22)] at e; exact e) | (rw [bs_succF (decide_eq_false c_22)] at e; rw [show nI 0 = 0 from rfl, Int32.or_zero]; exact e)
theorem r_beastsAt (c : Int32) (n : Nat) (hn : n ≤ 5) (hb : h 82 0 = nI n) : avE 1 186 [.ref 81, .int c] (sX L t lt rt rp sw h gl) (some (.int (bAt (fun b => h 82 (13 + 5 * b)) n c)), sX L t lt rt rp sw h gl) := by
  show avA _ 186 0 [.ref 81, .int (c), mvU, mvU] [] _ _
  refine a_iconst (v := (nI 0)) rfl rfl rfl ?_
  refine a_istore_2 rfl rfl rfl ?_
  refine a_iconst (v := (nI 0)) rfl rfl rfl ?_
  refine a_istore_3 rfl rfl rfl ?_
  exact l_rbeastsAt c n hn hb n 0 (by omega)
/-- may a cell become a wall? -/
abbrev tkn (mo : Int32) (at_ : Nat → Int32) (n : Nat) (c : Int32) : Prop := mo = c ∨ bAt at_ n c ≠ 0
theorem e_isTaken (c : Int32) (n : Nat) (hn : n ≤ 5) (hb : h 14 4 = nI n) : avE 1 22 [.ref 14, .int c] (sX L t lt rt rp sw h gl) (some (.int (bI (tkn (h 14 0) (h 15) n c))), sX L t lt rt rp sw h gl) := by
  show avA _ 22 0 [.ref 14, .int (c)] [] _ _
  refine a_aload_0 rfl rfl ?_
  refine a_geti rfl rfl rfl (fun _ _ _ => rfl) ?_
  refine a_iload_1 rfl rfl ?_
  refine a_cmp_eq rfl rfl rfl (fun c_5 => ?_) (fun c_5 => ?_)
  · refine a_iconst (v := (nI 1)) rfl rfl rfl ?_
    refine a_goto rfl rfl ?_
    refine av_to (a_zret rfl rfl (Or.inr rfl)) (bz1 ?_)
    first | exact Or.inl c_5 | exact Or.inr c_13 | exact fun q => q.elim (fun w => c_5 w) (fun w => w c_13)
  · refine a_aload_0 rfl rfl ?_
    refine a_iload_1 rfl rfl ?_
    refine a_virtI rfl rfl (e_beastsAt c n hn hb) (Nat.le_of_ble_eq_true rfl) ⟨rfl, rfl, rfl, rfl⟩ rfl rfl rfl (Nat.le_of_ble_eq_true rfl) rfl rfl ?_
    refine a_if_eq rfl rfl rfl (fun c_13 => ?_) (fun c_13 => ?_)
    · refine a_iconst (v := (nI 0)) rfl rfl rfl ?_
      refine av_to (a_zret rfl rfl (Or.inl rfl)) (bz0 ?_)
      first | exact Or.inl c_5 | exact Or.inr c_13 | exact fun q => q.elim (fun w => c_5 w) (fun w => w c_13)
    · refine a_iconst (v := (nI 1)) rfl rfl rfl ?_
      refine a_goto rfl rfl ?_
      refine av_to (a_zret rfl rfl (Or.inr rfl)) (bz1 ?_)
      first | exact Or.inl c_5 | exact Or.inr c_13 | exact fun q => q.elim (fun w => c_5 w) (fun w => w c_13)
abbrev clP (mo : Int32) (at_ : Nat → Int32) (n : Nat) (c k : Int32) : Prop := inC c ∧ (0 ≤ k.toInt ∧ k.toInt ≤ 3) ∧ ¬ (k = nI 1 ∧ tkn mo at_ n c)
theorem c_cell_T (c n : Nat) (k : Int32) (hn : n ≤ 5) (hb : h 14 4 = nI n) (hc : c < 30) (hP : clP (h 14 0) (h 15) n (nI c) k) (op : Nat → Bool) (hO : rPth op (h 9) (h 10)) : ∃ F, avE 2 19 [.ref 7, .int (nI c), .int k] (sX L t lt rt rp sw h gl) (some (.int (nI 1)), sX L t lt rt rp sw (mvPut (va_up (mvPut h 12 c k) 9 F) 8 9 (h 8 9 + nI 1)) gl) ∧ rPth (noW (va_up (h 12) c k)) F (h 10) := by
  obtain ⟨F, C, hF⟩ := e_cellsChanged (L := L) (t := t) (lt := lt) (rt := rt) (rp := rp) (sw := sw) (gl := gl) (h := mvPut h 12 c k) op hO
  refine ⟨F, ?_, hF⟩
  show avA _ 19 0 [.ref 7, .int (nI (c)), .int (k)] [] _ _
  refine a_iload_1 rfl rfl ?_
  refine a_statI rfl rfl (e_isCell (nI c)) (Nat.le_of_ble_eq_true rfl) ⟨rfl, rfl, rfl⟩ rfl rfl rfl (Nat.le_of_ble_eq_true rfl) rfl ?_
  refine a_ifb_eq rfl rfl rfl (fun c_4 => by first | exact absurd c_4 (not_not_intro hP.1) | exact absurd (not_not_intro hP.1) c_4) (fun _ => ?_)
  refine a_iload_2 rfl rfl ?_
  refine a_iconst (v := (nI 3)) rfl rfl rfl ?_
  refine a_statI rfl rfl (e_isWithin k 3 (by omega)) (Nat.le_of_ble_eq_true rfl) ⟨rfl, rfl, rfl⟩ rfl rfl rfl (Nat.le_of_ble_eq_true rfl) rfl ?_
  refine a_ifb_ne rfl rfl rfl (fun _ => ?_) (fun c_12 => by first | exact absurd hP.2.1 c_12 | exact absurd c_12 hP.2.1)
  refine a_iload_2 rfl rfl ?_
  refine a_iconst (v := (nI 1)) rfl rfl rfl ?_
  refine a_cmp_ne rfl rfl rfl (fun c_19 => ?_) (fun c_19 => ?_)
  · refine a_aload_0 rfl rfl ?_
    refine a_getr rfl rfl rfl (fun _ _ _ => rfl) rfl ?_
    refine a_getr rfl rfl rfl (fun _ _ _ => rfl) rfl ?_
    refine a_iload_1 rfl rfl ?_
    refine a_iload_2 rfl rfl ?_
    refine a_iast rfl rfl rfl rfl (by omega) (by decide) ?_
    refine a_aload_0 rfl rfl ?_
    refine a_virt0 rfl rfl (C) (Nat.le_of_ble_eq_true rfl) ⟨rfl, rfl, rfl, rfl⟩ rfl rfl rfl (Nat.le_of_ble_eq_true rfl) rfl rfl ?_
    refine a_iconst (v := (nI 1)) rfl rfl rfl ?_
    exact a_zret rfl rfl (Or.inr rfl)
  · refine a_aload_0 rfl rfl ?_
    refine a_getr rfl rfl rfl (fun _ _ _ => rfl) rfl ?_
    refine a_getr rfl rfl rfl (fun _ _ _ => rfl) rfl ?_
    refine a_iload_1 rfl rfl ?_
    refine a_virtI rfl rfl (e_isTaken (nI c) n hn hb) (Nat.le_of_ble_eq_true rfl) ⟨rfl, rfl, rfl, rfl⟩ rfl rfl rfl (Nat.le_of_ble_eq_true rfl) rfl rfl ?_
    refine a_ifb_eq rfl rfl rfl (fun _ => ?_) (fun c_33 => by first | exact absurd (fun q => hP.2.2 ⟨c_19, q⟩) c_33 | exact absurd c_33 (fun q => hP.2.2 ⟨c_19, q⟩))
    refine a_aload_0 rfl rfl ?_
    refine a_getr rfl rfl rfl (fun _ _ _ => rfl) rfl ?_
    refine a_getr rfl rfl rfl (fun _ _ _ => rfl) rfl ?_
    refine a_iload_1 rfl rfl ?_
    refine a_iload_2 rfl rfl ?_
    refine a_iast rfl rfl rfl rfl (by omega) (by decide) ?_
    refine a_aload_0 rfl rfl ?_
    refine a_virt0 rfl rfl (C) (Nat.le_of_ble_eq_true rfl) ⟨rfl, rfl, rfl, rfl⟩ rfl rfl rfl (Nat.le_of_ble_eq_true rfl) rfl rfl ?_
    refine a_iconst (v := (nI 1)) rfl rfl rfl ?_
    exact a_zret rfl rfl (Or.inr rfl)
theorem c_cell_F (c k : Int32) (n : Nat) (hn : n ≤ 5) (hb : h 14 4 = nI n) (hP : ¬ clP (h 14 0) (h 15) n c k) : avE 2 19 [.ref 7, .int c, .int k] (sX L t lt rt rp sw h gl) (some (.int (nI 0)), sX L t lt rt rp sw h gl) := by
  show avA _ 19 0 [.ref 7, .int (c), .int (k)] [] _ _
  refine a_iload_1 rfl rfl ?_
  refine a_statI rfl rfl (e_isCell c) (Nat.le_of_ble_eq_true rfl) ⟨rfl, rfl, rfl⟩ rfl rfl rfl (Nat.le_of_ble_eq_true rfl) rfl ?_
  refine a_ifb_eq rfl rfl rfl (fun c_4 => ?_) (fun c_4 => ?_)
  · refine a_iconst (v := (nI 0)) rfl rfl rfl ?_
    exact a_zret rfl rfl (Or.inl rfl)
  · refine a_iload_2 rfl rfl ?_
    refine a_iconst (v := (nI 3)) rfl rfl rfl ?_
    refine a_statI rfl rfl (e_isWithin k 3 (by omega)) (Nat.le_of_ble_eq_true rfl) ⟨rfl, rfl, rfl⟩ rfl rfl rfl (Nat.le_of_ble_eq_true rfl) rfl ?_
    refine a_ifb_ne rfl rfl rfl (fun c_12 => ?_) (fun c_12 => ?_)
    · refine a_iload_2 rfl rfl ?_
      refine a_iconst (v := (nI 1)) rfl rfl rfl ?_
      refine a_cmp_ne rfl rfl rfl (fun c_19 => False.elim (hP ⟨c_4, c_12, fun q => c_19 q.1⟩)) (fun _ => ?_)
      refine a_aload_0 rfl rfl ?_
      refine a_getr rfl rfl rfl (fun _ _ _ => rfl) rfl ?_
      refine a_getr rfl rfl rfl (fun _ _ _ => rfl) rfl ?_
      refine a_iload_1 rfl rfl ?_
      refine a_virtI rfl rfl (e_isTaken c n hn hb) (Nat.le_of_ble_eq_true rfl) ⟨rfl, rfl, rfl, rfl⟩ rfl rfl rfl (Nat.le_of_ble_eq_true rfl) rfl rfl ?_
      refine a_ifb_eq rfl rfl rfl (fun c_33 => by first | exact absurd c_33 (fun q => hP ⟨c_4, c_12, fun w => q w.2⟩) | exact absurd (fun q => hP ⟨c_4, c_12, fun w => q w.2⟩) c_33) (fun _ => ?_)
      refine a_iconst (v := (nI 0)) rfl rfl rfl ?_
      exact a_zret rfl rfl (Or.inl rfl)
    · refine a_iconst (v := (nI 0)) rfl rfl rfl ?_
      exact a_zret rfl rfl (Or.inl rfl)
theorem r_cell_T (c n : Nat) (k : Int32) (hn : n ≤ 5) (hb : h 82 0 = nI n) (hc : c < 30) (hP : clP (h 82 9) (fun b => h 82 (13 + 5 * b)) n (nI c) k) : avE 2 183 [.ref 81, .int (nI c), .int k] (sX L t lt rt rp sw h gl) (some (.int (nI 1)), sX L t lt rt rp sw (mvPut h 82 (38 + c) k) gl) := by
  show avA _ 183 0 [.ref 81, .int (nI (c)), .int (k)] [] _ _
  refine a_iload_1 rfl rfl ?_
  refine a_statI rfl rfl (r_isCell (nI c)) (Nat.le_of_ble_eq_true rfl) ⟨rfl, rfl, rfl⟩ rfl rfl rfl (Nat.le_of_ble_eq_true rfl) rfl ?_
  refine a_ifb_eq rfl rfl rfl (fun c_4 => by first | exact absurd c_4 (not_not_intro hP.1) | exact absurd (not_not_intro hP.1) c_4) (fun _ => ?_)
  refine a_iload_2 rfl rfl ?_
  refine a_iconst (v := (nI 0)) rfl rfl rfl ?_
  refine a_iconst (v := (nI 3)) rfl rfl rfl ?_
  refine a_statI rfl rfl (r_isIn0 k 0 3 (by omega) (by omega)) (Nat.le_of_ble_eq_true rfl) ⟨rfl, rfl, rfl⟩ rfl rfl rfl (Nat.le_of_ble_eq_true rfl) rfl ?_
  refine a_ifb_eq rfl rfl rfl (fun c_13 => by first | exact absurd c_13 (not_not_intro hP.2.1) | exact absurd (not_not_intro hP.2.1) c_13) (fun _ => ?_)
  refine a_iload_2 rfl rfl ?_
  refine a_iconst (v := (nI 1)) rfl rfl rfl ?_
  refine a_cmp_ne rfl rfl rfl (fun c_18 => ?_) (fun c_18 => ?_)
  · refine a_aload_0 rfl rfl ?_
    refine a_getr rfl rfl rfl (fun _ _ _ => rfl) rfl ?_
    refine a_bipush (v := (nI 38)) rfl rfl rfl ?_
    refine a_iload_1 rfl rfl ?_
    refine a_iaddN rfl rfl ?_
    refine a_iload_2 rfl rfl ?_
    refine a_iast rfl rfl rfl rfl (by omega) (by decide) ?_
    refine a_iconst (v := (nI 1)) rfl rfl rfl ?_
    exact a_zret rfl rfl (Or.inr rfl)
  · refine a_aload_0 rfl rfl ?_
    refine a_getr rfl rfl rfl (fun _ _ _ => rfl) rfl ?_
    refine a_bipush (v := (nI 9)) rfl rfl rfl ?_
    refine a_iald rfl rfl (Or.inl rfl) rfl (by omega) (by decide) ?_
    refine a_iload_1 rfl rfl ?_
    refine a_cmp_eq rfl rfl rfl (fun c_29 => by first | exact absurd c_29 (fun q => hP.2.2 ⟨‹_›, Or.inl q⟩) | exact absurd (fun q => hP.2.2 ⟨‹_›, Or.inl q⟩) c_29) (fun _ => ?_)
    refine a_aload_0 rfl rfl ?_
    refine a_iload_1 rfl rfl ?_
    refine a_virtI rfl rfl (r_beastsAt (nI c) n hn hb) (Nat.le_of_ble_eq_true rfl) ⟨rfl, rfl, rfl, rfl⟩ rfl rfl rfl (Nat.le_of_ble_eq_true rfl) rfl rfl ?_
    refine a_if_eq rfl rfl rfl (fun _ => ?_) (fun c_37 => False.elim (hP.2.2 ⟨‹_›, Or.inr c_37⟩))
    refine a_aload_0 rfl rfl ?_
    refine a_getr rfl rfl rfl (fun _ _ _ => rfl) rfl ?_
    refine a_bipush (v := (nI 38)) rfl rfl rfl ?_
    refine a_iload_1 rfl rfl ?_
    refine a_iaddN rfl rfl ?_
    refine a_iload_2 rfl rfl ?_
    refine a_iast rfl rfl rfl rfl (by omega) (by decide) ?_
    refine a_iconst (v := (nI 1)) rfl rfl rfl ?_
    exact a_zret rfl rfl (Or.inr rfl)
theorem r_cell_F (c k : Int32) (n : Nat) (hn : n ≤ 5) (hb : h 82 0 = nI n) (hP : ¬ clP (h 82 9) (fun b => h 82 (13 + 5 * b)) n c k) : avE 2 183 [.ref 81, .int c, .int k] (sX L t lt rt rp sw h gl) (some (.int (nI 0)), sX L t lt rt rp sw h gl) := by
  show avA _ 183 0 [.ref 81, .int (c), .int (k)] [] _ _
  refine a_iload_1 rfl rfl ?_
  refine a_statI rfl rfl (r_isCell c) (Nat.le_of_ble_eq_true rfl) ⟨rfl, rfl, rfl⟩ rfl rfl rfl (Nat.le_of_ble_eq_true rfl) rfl ?_
  refine a_ifb_eq rfl rfl rfl (fun c_4 => ?_) (fun c_4 => ?_)
  · refine a_iconst (v := (nI 0)) rfl rfl rfl ?_
    exact a_zret rfl rfl (Or.inl rfl)
  · refine a_iload_2 rfl rfl ?_
    refine a_iconst (v := (nI 0)) rfl rfl rfl ?_
    refine a_iconst (v := (nI 3)) rfl rfl rfl ?_
    refine a_statI rfl rfl (r_isIn0 k 0 3 (by omega) (by omega)) (Nat.le_of_ble_eq_true rfl) ⟨rfl, rfl, rfl⟩ rfl rfl rfl (Nat.le_of_ble_eq_true rfl) rfl ?_
    refine a_ifb_eq rfl rfl rfl (fun c_13 => ?_) (fun c_13 => ?_)
    · refine a_iconst (v := (nI 0)) rfl rfl rfl ?_
      exact a_zret rfl rfl (Or.inl rfl)
    · refine a_iload_2 rfl rfl ?_
      refine a_iconst (v := (nI 1)) rfl rfl rfl ?_
      refine a_cmp_ne rfl rfl rfl (fun c_18 => False.elim (hP ⟨c_4, c_13, fun q => c_18 q.1⟩)) (fun _ => ?_)
      refine a_aload_0 rfl rfl ?_
      refine a_getr rfl rfl rfl (fun _ _ _ => rfl) rfl ?_
      refine a_bipush (v := (nI 9)) rfl rfl rfl ?_
      refine a_iald rfl rfl (Or.inl rfl) rfl (by omega) (by decide) ?_
      refine a_iload_1 rfl rfl ?_
      refine a_cmp_eq rfl rfl rfl (fun c_29 => ?_) (fun c_29 => ?_)
      · refine a_iconst (v := (nI 0)) rfl rfl rfl ?_
        exact a_zret rfl rfl (Or.inl rfl)
      · refine a_aload_0 rfl rfl ?_
        refine a_iload_1 rfl rfl ?_
        refine a_virtI rfl rfl (r_beastsAt c n hn hb) (Nat.le_of_ble_eq_true rfl) ⟨rfl, rfl, rfl, rfl⟩ rfl rfl rfl (Nat.le_of_ble_eq_true rfl) rfl rfl ?_
        refine a_if_eq rfl rfl rfl (fun c_37 => False.elim (hP ⟨c_4, c_13, fun w => w.2.elim (fun z => c_29 z) (fun z => z c_37)⟩)) (fun _ => ?_)
        refine a_iconst (v := (nI 0)) rfl rfl rfl ?_
        exact a_zret rfl rfl (Or.inl rfl)
end CE
