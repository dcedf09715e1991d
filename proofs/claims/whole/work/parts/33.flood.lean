/-! FLOODS, CELLS -/
def lowP (H : Nat → Int32) (lv : Int32) : Nat → Bool := fun j => decide ((H j).toInt < lv.toInt)
theorem lowP_T {H : Nat → Int32} {lv : Int32} {j : Nat} (e : (H j).toInt < lv.toInt) : lowP H lv j = true := decide_eq_true e
theorem lowP_F {H : Nat → Int32} {lv : Int32} {j : Nat} (e : ¬ (H j).toInt < lv.toInt) : lowP H lv j = false := decide_eq_false e
def rim : Nat → Bool := fun j => decide (j % 6 = 0 ∨ j % 6 = 5 ∨ j < 6 ∨ 24 ≤ j)
def flV (H : Nat → Int32) (lv : Int32) : Int32 := bsI 30 (grow (lowP H lv) rim 30)
theorem rim_bs : nI 1065752703 = bsI 30 rim := by decide +kernel
theorem grow_pa {th p : Nat → Bool} {i : Nat} : ∀ j, j < 30 → grow th (fun j => p j && th j) i j = grow th p i j := by
  induction i with
  | zero => intro j hj; show ((p j && th j) && th j) = (p j && th j); cases th j <;> simp
  | succ i ih =>
    intro j hj
    show ((grow th _ i j || nb (grow th _ i) j) && th j) = ((grow th p i j || nb (grow th p i) j) && th j)
    rw [ih j hj, nb_ext ih j hj]
section FL
variable {L t : Nat} {lt rt rp : Option Nat} {sw : Bool} {h : Nat → Nat → Int32} {gl : Nat → Nat → Int64}
theorem l_below (lv : Int32) (m : Nat) : ∀ i, i + m = 30 → avA 0 161 4 [.ref 11, .int lv, .int (bsI i (lowP (h 13) lv)), .int (nI i)] [] (sX L t lt rt rp sw h gl) (some (.int (bsI 30 (lowP (h 13) lv))), sX L t lt rt rp sw h gl) := by
  induction m with
  | zero =>
    intro i hi
    have e : i = 30 := by omega
    subst e
    refine a_iload_3 rfl rfl ?_
    refine a_bipush (v := (nI 30)) rfl rfl rfl ?_
    refine a_cmpN_ge rfl rfl rfl (by omega) (by omega) (fun _ => ?_) (fun c_7 => absurd c_7 (by decide))
    refine a_iload_2 rfl rfl ?_
    exact a_iret rfl rfl
  | succ m ih =>
    intro i hi
    refine a_iload_3 rfl rfl ?_
    refine a_bipush (v := (nI 30)) rfl rfl rfl ?_
    refine a_cmpN_ge rfl rfl rfl (by omega) (by omega) (fun c_7 => False.elim (by omega)) (fun _ => ?_)
    refine a_aload_0 rfl rfl ?_
    refine a_getr rfl rfl rfl (fun _ _ _ => rfl) rfl ?_
    refine a_iload_3 rfl rfl ?_
    refine a_iald rfl rfl (Or.inl rfl) rfl (by omega) (by decide) ?_
    refine a_iload_1 rfl rfl ?_
    refine a_cmpI_ge rfl rfl rfl rfl rfl (fun c_17 => ?_) (fun c_17 => ?_)
    · refine a_iinc_3 rfl rfl (nI_inc _ _) rfl ?_
      refine a_goto rfl rfl ?_
      have e := ih (i + 1) (by omega)
      first | (rw [← bs_succT (by omega) (decide_eq_true (by omega))] at e; exact e) | (rw [bs_succF (decide_eq_false (by omega))] at e; exact e)
    · refine a_iload_2 rfl rfl ?_
      refine a_iconst (v := (nI 1)) rfl rfl rfl ?_
      refine a_iload_3 rfl rfl ?_
      refine a_ishl rfl rfl ?_
      refine a_ior rfl rfl ?_
      refine a_istore_2 rfl rfl rfl ?_
      refine a_iinc_3 rfl rfl (nI_inc _ _) rfl ?_
      refine a_goto rfl rfl ?_
      have e := ih (i + 1) (by omega)
      first | (rw [← bs_succT (by omega) (decide_eq_true (by omega))] at e; exact e) | (rw [bs_succF (decide_eq_false (by omega))] at e; exact e)
theorem e_below (lv : Int32) : avE 0 161 [.ref 11, .int lv] (sX L t lt rt rp sw h gl) (some (.int (bsI 30 (lowP (h 13) lv))), sX L t lt rt rp sw h gl) := by
  show avA _ 161 0 [.ref 11, .int (lv), mvU, mvU] [] _ _
  refine a_iconst (v := (nI 0)) rfl rfl rfl ?_
  refine a_istore_2 rfl rfl rfl ?_
  refine a_iconst (v := (nI 0)) rfl rfl rfl ?_
  refine a_istore_3 rfl rfl rfl ?_
  exact l_below lv 30 0 rfl
theorem c_flood_T (lv : Int32) (hl : 0 ≤ lv.toInt ∧ lv.toInt ≤ 9) : avE 2 160 [.ref 7, .int lv] (sX L t lt rt rp sw h gl) (some (.int (flV (h 13) lv)), sX L t lt rt rp sw h gl) := by
  show avA _ 160 0 [.ref 7, .int (lv), mvU] [] _ _
  refine a_iload_1 rfl rfl ?_
  refine a_bipush (v := (nI 9)) rfl rfl rfl ?_
  refine a_statI rfl rfl (e_isWithin lv 9 (by omega)) (Nat.le_of_ble_eq_true rfl) ⟨rfl, rfl, rfl⟩ rfl rfl rfl (Nat.le_of_ble_eq_true rfl) rfl ?_
  refine a_ifb_ne rfl rfl rfl (fun _ => ?_) (fun c_6 => by first | exact absurd hl c_6 | exact absurd c_6 hl)
  refine a_aload_0 rfl rfl ?_
  refine a_getr rfl rfl rfl (fun _ _ _ => rfl) rfl ?_
  refine a_iload_1 rfl rfl ?_
  refine a_virtI rfl rfl (e_below lv) (Nat.le_of_ble_eq_true rfl) ⟨rfl, rfl, rfl, rfl⟩ rfl rfl rfl (Nat.le_of_ble_eq_true rfl) rfl rfl ?_
  refine a_istore_2 rfl rfl rfl ?_
  refine a_ldcw (v := (nI 1065752703)) rfl rfl rfl ?_
  refine a_iload_2 rfl rfl ?_
  refine a_iand rfl rfl ?_
  refine a_as (y := _) (show _ = bsI 30 (fun j => rim j && lowP (h 13) lv j) by rw [rim_bs, bs_and (by omega)]) ?_
  refine a_iload_2 rfl rfl ?_
  refine a_statI rfl rfl (e_reach _ _) (Nat.le_of_ble_eq_true rfl) ⟨rfl, rfl, rfl⟩ rfl rfl rfl (Nat.le_of_ble_eq_true rfl) rfl ?_
  refine av_to (a_iret rfl rfl) ?_
  exact congrArg (fun v => (some (Value.int v), sX L t lt rt rp sw h gl)) (bs_ext grow_pa)
theorem c_flood_F (lv : Int32) (hl : ¬ (0 ≤ lv.toInt ∧ lv.toInt ≤ 9)) : avE 2 160 [.ref 7, .int lv] (sX L t lt rt rp sw h gl) (some (.int (-1)), sX L t lt rt rp sw h gl) := by
  show avA _ 160 0 [.ref 7, .int (lv), mvU] [] _ _
  refine a_iload_1 rfl rfl ?_
  refine a_bipush (v := (nI 9)) rfl rfl rfl ?_
  refine a_statI rfl rfl (e_isWithin lv 9 (by omega)) (Nat.le_of_ble_eq_true rfl) ⟨rfl, rfl, rfl⟩ rfl rfl rfl (Nat.le_of_ble_eq_true rfl) rfl ?_
  refine a_ifb_ne rfl rfl rfl (fun c_6 => by first | exact absurd c_6 hl | exact absurd hl c_6) (fun _ => ?_)
  refine a_iconst (v := (-1)) rfl rfl rfl ?_
  exact a_iret rfl rfl
theorem l_rfl1 {y3 : Int32} {r : Option Value × mvSt} (lv : Int32) (m : Nat) : ∀ i, i + m = 30 → avA 2 310 45 [.ref 81, .int lv, .int (bsI 30 (lowP (fun j => h 82 (68 + j)) lv)), .int y3, .int (nI 30)] [] (sX L t lt rt rp sw h gl) r → avA 2 310 7 [.ref 81, .int lv, .int (bsI i (lowP (fun j => h 82 (68 + j)) lv)), .int y3, .int (nI i)] [] (sX L t lt rt rp sw h gl) r := by
  induction m with
  | zero =>
    intro i hi Z
    have e : i = 30 := by omega
    subst e
    refine a_iload_4 rfl rfl ?_
    refine a_bipush (v := (nI 30)) rfl rfl rfl ?_
    refine a_cmpN_ge rfl rfl rfl (by omega) (by omega) (fun _ => ?_) (fun c_11 => absurd c_11 (by decide))
    exact Z
  | succ m ih =>
    intro i hi Z
    refine a_iload_4 rfl rfl ?_
    refine a_bipush (v := (nI 30)) rfl rfl rfl ?_
    refine a_cmpN_ge rfl rfl rfl (by omega) (by omega) (fun c_11 => False.elim (by omega)) (fun _ => ?_)
    refine a_iload_2 rfl rfl ?_
    refine a_aload_0 rfl rfl ?_
    refine a_getr rfl rfl rfl (fun _ _ _ => rfl) rfl ?_
    refine a_bipush (v := (nI 68)) rfl rfl rfl ?_
    refine a_iload_4 rfl rfl ?_
    refine a_iaddN rfl rfl ?_
    refine a_iald rfl rfl (Or.inl rfl) rfl (by omega) (by decide) ?_
    refine a_iload_1 rfl rfl ?_
    refine a_cmpI_ge rfl rfl rfl rfl rfl (fun c_26 => ?_) (fun c_26 => ?_)
    · refine a_iconst (v := (nI 0)) rfl rfl rfl ?_
      refine a_ior rfl rfl ?_
      refine a_istore_2 rfl rfl rfl ?_
      refine a_iinc_4 rfl rfl (nI_inc _ _) rfl ?_
      refine a_goto rfl rfl ?_
      have e := ih (i + 1) (by omega) Z
      first | (rw [← bs_succT (by omega) (lowP_T (H := fun j => h 82 (68 + j)) (show (h 82 (68 + i)).toInt < lv.toInt by omega))] at e; exact e) | (rw [bs_succF (lowP_F (H := fun j => h 82 (68 + j)) (show ¬ (h 82 (68 + i)).toInt < lv.toInt by omega))] at e; rw [show nI 0 = 0 from rfl, Int32.or_zero]; exact e)
    · refine a_iconst (v := (nI 1)) rfl rfl rfl ?_
      refine a_iload_4 rfl rfl ?_
      refine a_ishl rfl rfl ?_
      refine a_goto rfl rfl ?_
      refine a_ior rfl rfl ?_
      refine a_istore_2 rfl rfl rfl ?_
      refine a_iinc_4 rfl rfl (nI_inc _ _) rfl ?_
      refine a_goto rfl rfl ?_
      have e := ih (i + 1) (by omega) Z
      first | (rw [← bs_succT (by omega) (lowP_T (H := fun j => h 82 (68 + j)) (show (h 82 (68 + i)).toInt < lv.toInt by omega))] at e; exact e) | (rw [bs_succF (lowP_F (H := fun j => h 82 (68 + j)) (show ¬ (h 82 (68 + i)).toInt < lv.toInt by omega))] at e; rw [show nI 0 = 0 from rfl, Int32.or_zero]; exact e)
theorem l_rfl2 {r : Option Value × mvSt} (lv : Int32) (lo : Nat → Bool) (m : Nat) : ∀ i, i + m = 30 → avA 2 310 89 [.ref 81, .int lv, .int (bsI 30 lo), .int (bsI 30 (grow lo rim 0)), .int (nI 30)] [] (sX L t lt rt rp sw h gl) r → avA 2 310 48 [.ref 81, .int lv, .int (bsI 30 lo), .int (bsI i (grow lo rim 0)), .int (nI i)] [] (sX L t lt rt rp sw h gl) r := by
  induction m with
  | zero =>
    intro i hi Z
    have e : i = 30 := by omega
    subst e
    refine a_iload_4 rfl rfl ?_
    refine a_bipush (v := (nI 30)) rfl rfl rfl ?_
    refine a_cmpN_ge rfl rfl rfl (by omega) (by omega) (fun _ => ?_) (fun c_52 => absurd c_52 (by decide))
    exact Z
  | succ m ih =>
    intro i hi Z
    refine a_iload_4 rfl rfl ?_
    refine a_bipush (v := (nI 30)) rfl rfl rfl ?_
    refine a_cmpN_ge rfl rfl rfl (by omega) (by omega) (fun c_52 => False.elim (by omega)) (fun _ => ?_)
    refine a_iload_3 rfl rfl ?_
    refine a_iload_4 rfl rfl ?_
    refine a_statI rfl rfl (r_isRim i (by omega)) (Nat.le_of_ble_eq_true rfl) ⟨rfl, rfl, rfl⟩ rfl rfl rfl (Nat.le_of_ble_eq_true rfl) rfl ?_
    refine a_ifb_eq rfl rfl rfl (fun c_61 => ?_) (fun c_61 => ?_)
    · refine a_iconst (v := (nI 0)) rfl rfl rfl ?_
      refine a_ior rfl rfl ?_
      refine a_istore_3 rfl rfl rfl ?_
      refine a_iinc_4 rfl rfl (nI_inc _ _) rfl ?_
      refine a_goto rfl rfl ?_
      have e := ih (i + 1) (by omega) Z
      first | (have g2 : grow lo rim 0 i = true := (by rw [tb_bs (by omega)] at c_70; simp at c_70; show (rim i && lo i) = true; rw [g1, c_70.2]; rfl); rw [← bs_succT (by omega) g2] at e; exact e) | (have g2 : grow lo rim 0 i = false := (by rw [tb_bs (by omega)] at c_70; show (rim i && lo i) = false; cases w : lo i; simp; exact absurd (by simp [w]; omega) c_70); rw [bs_succF g2] at e; rw [show nI 0 = 0 from rfl, Int32.or_zero]; exact e) | (have g2 : grow lo rim 0 i = false := (by show (rim i && lo i) = false; rw [show rim i = false from decide_eq_false c_61]; rfl); rw [bs_succF g2] at e; rw [show nI 0 = 0 from rfl, Int32.or_zero]; exact e)
    · have g1 : rim i = true := decide_eq_true c_61
      refine a_iload_2 rfl rfl ?_
      refine a_iload_4 rfl rfl ?_
      refine a_statI rfl rfl (r_has _ i (by omega)) (Nat.le_of_ble_eq_true rfl) ⟨rfl, rfl, rfl⟩ rfl rfl rfl (Nat.le_of_ble_eq_true rfl) rfl ?_
      refine a_ifb_eq rfl rfl rfl (fun c_70 => ?_) (fun c_70 => ?_)
      · refine a_iconst (v := (nI 0)) rfl rfl rfl ?_
        refine a_ior rfl rfl ?_
        refine a_istore_3 rfl rfl rfl ?_
        refine a_iinc_4 rfl rfl (nI_inc _ _) rfl ?_
        refine a_goto rfl rfl ?_
        have e := ih (i + 1) (by omega) Z
        first | (have g2 : grow lo rim 0 i = true := (by rw [tb_bs (by omega)] at c_70; simp at c_70; show (rim i && lo i) = true; rw [g1, c_70.2]; rfl); rw [← bs_succT (by omega) g2] at e; exact e) | (have g2 : grow lo rim 0 i = false := (by rw [tb_bs (by omega)] at c_70; show (rim i && lo i) = false; cases w : lo i; simp; exact absurd (by simp [w]; omega) c_70); rw [bs_succF g2] at e; rw [show nI 0 = 0 from rfl, Int32.or_zero]; exact e) | (have g2 : grow lo rim 0 i = false := (by show (rim i && lo i) = false; rw [show rim i = false from decide_eq_false c_61]; rfl); rw [bs_succF g2] at e; rw [show nI 0 = 0 from rfl, Int32.or_zero]; exact e)
      · refine a_iconst (v := (nI 1)) rfl rfl rfl ?_
        refine a_iload_4 rfl rfl ?_
        refine a_ishl rfl rfl ?_
        refine a_goto rfl rfl ?_
        refine a_ior rfl rfl ?_
        refine a_istore_3 rfl rfl rfl ?_
        refine a_iinc_4 rfl rfl (nI_inc _ _) rfl ?_
        refine a_goto rfl rfl ?_
        have e := ih (i + 1) (by omega) Z
        first | (have g2 : grow lo rim 0 i = true := (by rw [tb_bs (by omega)] at c_70; simp at c_70; show (rim i && lo i) = true; rw [g1, c_70.2]; rfl); rw [← bs_succT (by omega) g2] at e; exact e) | (have g2 : grow lo rim 0 i = false := (by rw [tb_bs (by omega)] at c_70; show (rim i && lo i) = false; cases w : lo i; simp; exact absurd (by simp [w]; omega) c_70); rw [bs_succF g2] at e; rw [show nI 0 = 0 from rfl, Int32.or_zero]; exact e) | (have g2 : grow lo rim 0 i = false := (by show (rim i && lo i) = false; rw [show rim i = false from decide_eq_false c_61]; rfl); rw [bs_succF g2] at e; rw [show nI 0 = 0 from rfl, Int32.or_zero]; exact e)
theorem l_rfl3 (lv : Int32) (lo : Nat → Bool) (m : Nat) : ∀ i, i + m = 30 → avA 2 310 92 [.ref 81, .int lv, .int (bsI 30 lo), .int (bsI 30 (grow lo rim i)), .int (nI i)] [] (sX L t lt rt rp sw h gl) (some (.int (bsI 30 (grow lo rim 30))), sX L t lt rt rp sw h gl) := by
  induction m with
  | zero =>
    intro i hi
    have e : i = 30 := by omega
    subst e
    refine a_iload_4 rfl rfl ?_
    refine a_bipush (v := (nI 30)) rfl rfl rfl ?_
    refine a_cmpN_ge rfl rfl rfl (by omega) (by omega) (fun _ => ?_) (fun c_96 => absurd c_96 (by decide))
    refine a_iload_3 rfl rfl ?_
    exact a_iret rfl rfl
  | succ m ih =>
    intro i hi
    refine a_iload_4 rfl rfl ?_
    refine a_bipush (v := (nI 30)) rfl rfl rfl ?_
    refine a_cmpN_ge rfl rfl rfl (by omega) (by omega) (fun c_96 => False.elim (by omega)) (fun _ => ?_)
    refine a_iload_3 rfl rfl ?_
    refine a_statI rfl rfl (r_spread _) (Nat.le_of_ble_eq_true rfl) ⟨rfl, rfl, rfl⟩ rfl rfl rfl (Nat.le_of_ble_eq_true rfl) rfl ?_
    refine a_iload_2 rfl rfl ?_
    refine a_iand rfl rfl ?_
    refine a_as (y := bsI 30 (grow lo rim (i + 1))) (bs_and (by omega) _ _) ?_
    refine a_istore_3 rfl rfl rfl ?_
    refine a_iinc_4 rfl rfl (nI_inc _ _) rfl ?_
    refine a_goto rfl rfl ?_
    exact ih (i + 1) (by omega)
theorem r_floodOf (lv : Int32) : avE 2 310 [.ref 81, .int lv] (sX L t lt rt rp sw h gl) (some (.int (flV (fun j => h 82 (68 + j)) lv)), sX L t lt rt rp sw h gl) := by
  show avA _ 310 0 [.ref 81, .int (lv), mvU, mvU, mvU] [] _ _
  refine a_iconst (v := (nI 0)) rfl rfl rfl ?_
  refine a_istore_2 rfl rfl rfl ?_
  refine a_iconst (v := (nI 0)) rfl rfl rfl ?_
  refine a_istore_3 rfl rfl rfl ?_
  refine a_iconst (v := (nI 0)) rfl rfl rfl ?_
  refine a_istore_4 rfl rfl rfl ?_
  refine l_rfl1 lv 30 0 rfl ?_
  refine a_iconst (v := (nI 0)) rfl rfl rfl ?_
  refine a_istore_4 rfl rfl rfl ?_
  refine l_rfl2 lv _ 30 0 rfl ?_
  refine a_iconst (v := (nI 0)) rfl rfl rfl ?_
  refine a_istore_4 rfl rfl rfl ?_
  exact l_rfl3 lv _ 30 0 rfl
theorem r_flood_T (lv : Int32) (hl : 0 ≤ lv.toInt ∧ lv.toInt ≤ 9) : avE 3 309 [.ref 81, .int lv] (sX L t lt rt rp sw h gl) (some (.int (flV (fun j => h 82 (68 + j)) lv)), sX L t lt rt rp sw h gl) := by
  show avA _ 309 0 [.ref 81, .int (lv)] [] _ _
  refine a_iload_1 rfl rfl ?_
  refine a_iconst (v := (nI 0)) rfl rfl rfl ?_
  refine a_bipush (v := (nI 9)) rfl rfl rfl ?_
  refine a_statI rfl rfl (r_isIn0 lv 0 9 (by omega) (by omega)) (Nat.le_of_ble_eq_true rfl) ⟨rfl, rfl, rfl⟩ rfl rfl rfl (Nat.le_of_ble_eq_true rfl) rfl ?_
  refine a_ifb_eq rfl rfl rfl (fun c_7 => by first | exact absurd c_7 (not_not_intro hl) | exact absurd (not_not_intro hl) c_7) (fun _ => ?_)
  refine a_aload_0 rfl rfl ?_
  refine a_iload_1 rfl rfl ?_
  refine a_virtI rfl rfl (r_floodOf lv) (Nat.le_of_ble_eq_true rfl) ⟨rfl, rfl, rfl, rfl⟩ rfl rfl rfl (Nat.le_of_ble_eq_true rfl) rfl rfl ?_
  refine a_goto rfl rfl ?_
  exact a_iret rfl rfl
theorem r_flood_F (lv : Int32) (hl : ¬ (0 ≤ lv.toInt ∧ lv.toInt ≤ 9)) : avE 3 309 [.ref 81, .int lv] (sX L t lt rt rp sw h gl) (some (.int (-1)), sX L t lt rt rp sw h gl) := by
  show avA _ 309 0 [.ref 81, .int (lv)] [] _ _
  refine a_iload_1 rfl rfl ?_
  refine a_iconst (v := (nI 0)) rfl rfl rfl ?_
  refine a_bipush (v := (nI 9)) rfl rfl rfl ?_
  refine a_statI rfl rfl (r_isIn0 lv 0 9 (by omega) (by omega)) (Nat.le_of_ble_eq_true rfl) ⟨rfl, rfl, rfl⟩ rfl rfl rfl (Nat.le_of_ble_eq_true rfl) rfl ?_
  refine a_ifb_eq rfl rfl rfl (fun _ => ?_) (fun c_7 => by first | exact absurd hl c_7 | exact absurd c_7 hl)
  refine a_iconst (v := (-1)) rfl rfl rfl ?_
  exact a_iret rfl rfl
/-- the first level from i on at which n is wet -/
def wtV (H : Nat → Int32) (n : Nat) : Nat → Nat → Int32
  | 0, _ => -1
  | m + 1, i => if tb (flV H (nI i)) n = true then nI i else wtV H n m (i + 1)
theorem l_cwet (n : Nat) (hn : n < 30) (m : Nat) : ∀ i, 1 ≤ i → i + m = 10 → avA 3 162 11 [.ref 7, .int (nI n), .int (nI i)] [] (sX L t lt rt rp sw h gl) (some (.int (wtV (h 13) n m i)), sX L t lt rt rp sw h gl) := by
  induction m with
  | zero =>
    intro i h1 hi
    have e : i = 10 := by omega
    subst e
    refine a_iload_2 rfl rfl ?_
    refine a_bipush (v := (nI 9)) rfl rfl rfl ?_
    refine a_cmpN_gt rfl rfl rfl (by omega) (by omega) (fun _ => ?_) (fun c_14 => absurd c_14 (by decide))
    refine a_iconst (v := (-1)) rfl rfl rfl ?_
    exact a_iret rfl rfl
  | succ m ih =>
    intro i h1 hi
    refine a_iload_2 rfl rfl ?_
    refine a_bipush (v := (nI 9)) rfl rfl rfl ?_
    refine a_cmpN_gt rfl rfl rfl (by omega) (by omega) (fun c_14 => False.elim (by omega)) (fun _ => ?_)
    refine a_aload_0 rfl rfl ?_
    refine a_iload_2 rfl rfl ?_
    refine a_virtI rfl rfl (c_flood_T (nI i) (by rw [nI_toInt (by omega)]; omega)) (Nat.le_of_ble_eq_true rfl) ⟨rfl, rfl, rfl, rfl⟩ rfl rfl rfl (Nat.le_of_ble_eq_true rfl) rfl rfl ?_
    refine a_iload_1 rfl rfl ?_
    refine a_statI rfl rfl (e_has _ n (by omega)) (Nat.le_of_ble_eq_true rfl) ⟨rfl, rfl, rfl⟩ rfl rfl rfl (Nat.le_of_ble_eq_true rfl) rfl ?_
    refine a_ifb_eq rfl rfl rfl (fun c_26 => ?_) (fun c_26 => ?_)
    · refine a_iinc_2 rfl rfl (nI_inc _ _) rfl ?_
      refine a_goto rfl rfl ?_
      rw [wtV, if_neg c_26]
      exact ih (i + 1) (by omega) (by omega)
    · refine a_iload_2 rfl rfl ?_
      refine av_to (a_iret rfl rfl) ?_
      rw [wtV, if_pos c_26]
theorem c_wet_T (n : Nat) (hn : n < 30) : avE 3 162 [.ref 7, .int (nI n)] (sX L t lt rt rp sw h gl) (some (.int (wtV (h 13) n 9 1)), sX L t lt rt rp sw h gl) := by
  show avA _ 162 0 [.ref 7, .int (nI (n)), mvU] [] _ _
  refine a_iload_1 rfl rfl ?_
  refine a_statI rfl rfl (e_isCell (nI n)) (Nat.le_of_ble_eq_true rfl) ⟨rfl, rfl, rfl⟩ rfl rfl rfl (Nat.le_of_ble_eq_true rfl) rfl ?_
  refine a_ifb_ne rfl rfl rfl (fun _ => ?_) (fun c_4 => by first | exact absurd (inC_nI hn) c_4 | exact absurd c_4 (inC_nI hn))
  refine a_iconst (v := (nI 1)) rfl rfl rfl ?_
  refine a_istore_2 rfl rfl rfl ?_
  exact l_cwet n hn 9 1 (by omega) rfl
theorem c_wet_F (c : Int32) (hc : ¬ inC c) : avE 3 162 [.ref 7, .int c] (sX L t lt rt rp sw h gl) (some (.int (-1)), sX L t lt rt rp sw h gl) := by
  show avA _ 162 0 [.ref 7, .int (c), mvU] [] _ _
  refine a_iload_1 rfl rfl ?_
  refine a_statI rfl rfl (e_isCell c) (Nat.le_of_ble_eq_true rfl) ⟨rfl, rfl, rfl⟩ rfl rfl rfl (Nat.le_of_ble_eq_true rfl) rfl ?_
  refine a_ifb_ne rfl rfl rfl (fun c_4 => by first | exact absurd c_4 hc | exact absurd hc c_4) (fun _ => ?_)
  refine a_iconst (v := (-1)) rfl rfl rfl ?_
  exact a_iret rfl rfl
theorem l_rwet (n : Nat) (hn : n < 30) (m : Nat) : ∀ i, 1 ≤ i → i + m = 10 → avA 3 312 11 [.ref 81, .int (nI n), .int (nI i)] [] (sX L t lt rt rp sw h gl) (some (.int (wtV (fun j => h 82 (68 + j)) n m i)), sX L t lt rt rp sw h gl) := by
  induction m with
  | zero =>
    intro i h1 hi
    have e : i = 10 := by omega
    subst e
    refine a_iload_2 rfl rfl ?_
    refine a_bipush (v := (nI 10)) rfl rfl rfl ?_
    refine a_cmpN_ge rfl rfl rfl (by omega) (by omega) (fun _ => ?_) (fun c_14 => absurd c_14 (by decide))
    refine a_iconst (v := (-1)) rfl rfl rfl ?_
    exact a_iret rfl rfl
  | succ m ih =>
    intro i h1 hi
    refine a_iload_2 rfl rfl ?_
    refine a_bipush (v := (nI 10)) rfl rfl rfl ?_
    refine a_cmpN_ge rfl rfl rfl (by omega) (by omega) (fun c_14 => False.elim (by omega)) (fun _ => ?_)
    refine a_aload_0 rfl rfl ?_
    refine a_iload_2 rfl rfl ?_
    refine a_virtI rfl rfl (r_floodOf (nI i)) (Nat.le_of_ble_eq_true rfl) ⟨rfl, rfl, rfl, rfl⟩ rfl rfl rfl (Nat.le_of_ble_eq_true rfl) rfl rfl ?_
    refine a_iload_1 rfl rfl ?_
    refine a_statI rfl rfl (r_has _ n (by omega)) (Nat.le_of_ble_eq_true rfl) ⟨rfl, rfl, rfl⟩ rfl rfl rfl (Nat.le_of_ble_eq_true rfl) rfl ?_
    refine a_ifb_eq rfl rfl rfl (fun c_26 => ?_) (fun c_26 => ?_)
    · refine a_iinc_2 rfl rfl (nI_inc _ _) rfl ?_
      refine a_goto rfl rfl ?_
      rw [wtV, if_neg c_26]
      exact ih (i + 1) (by omega) (by omega)
    · refine a_iload_2 rfl rfl ?_
      refine av_to (a_iret rfl rfl) ?_
      rw [wtV, if_pos c_26]
theorem r_wet_T (n : Nat) (hn : n < 30) : avE 3 312 [.ref 81, .int (nI n)] (sX L t lt rt rp sw h gl) (some (.int (wtV (fun j => h 82 (68 + j)) n 9 1)), sX L t lt rt rp sw h gl) := by
  show avA _ 312 0 [.ref 81, .int (nI (n)), mvU] [] _ _
  refine a_iload_1 rfl rfl ?_
  refine a_statI rfl rfl (r_isCell (nI n)) (Nat.le_of_ble_eq_true rfl) ⟨rfl, rfl, rfl⟩ rfl rfl rfl (Nat.le_of_ble_eq_true rfl) rfl ?_
  refine a_ifb_ne rfl rfl rfl (fun _ => ?_) (fun c_4 => by first | exact absurd (inC_nI hn) c_4 | exact absurd c_4 (inC_nI hn))
  refine a_iconst (v := (nI 1)) rfl rfl rfl ?_
  refine a_istore_2 rfl rfl rfl ?_
  exact l_rwet n hn 9 1 (by omega) rfl
theorem r_wet_F (c : Int32) (hc : ¬ inC c) : avE 3 312 [.ref 81, .int c] (sX L t lt rt rp sw h gl) (some (.int (-1)), sX L t lt rt rp sw h gl) := by
  show avA _ 312 0 [.ref 81, .int (c), mvU] [] _ _
  refine a_iload_1 rfl rfl ?_
  refine a_statI rfl rfl (r_isCell c) (Nat.le_of_ble_eq_true rfl) ⟨rfl, rfl, rfl⟩ rfl rfl rfl (Nat.le_of_ble_eq_true rfl) rfl ?_
  refine a_ifb_ne rfl rfl rfl (fun c_4 => by first | exact absurd c_4 hc | exact absurd hc c_4) (fun _ => ?_)
  refine a_iconst (v := (-1)) rfl rfl rfl ?_
  exact a_iret rfl rfl
theorem flV_ext {H H' : Nat → Int32} (e : ∀ j, j < 30 → H j = H' j) (lv : Int32) : flV H lv = flV H' lv := by
  have q : ∀ i j, j < 30 → grow (lowP H lv) rim i j = grow (lowP H' lv) rim i j := by
    have l : ∀ j, j < 30 → lowP H lv j = lowP H' lv j := fun j hj => by unfold lowP; rw [e j hj]
    intro i
    induction i with
    | zero => intro j hj; show (rim j && lowP H lv j) = (rim j && lowP H' lv j); rw [l j hj]
    | succ i ih =>
      intro j hj
      show ((grow _ rim i j || nb (grow _ rim i) j) && lowP H lv j) = ((grow _ rim i j || nb (grow _ rim i) j) && lowP H' lv j)
      rw [ih j hj, nb_ext ih j hj, l j hj]
  exact bs_ext (q 30)
theorem wtV_ext {H H' : Nat → Int32} (e : ∀ j, j < 30 → H j = H' j) (n m : Nat) : ∀ i, wtV H n m i = wtV H' n m i := by
  induction m with
  | zero => intro i; rfl
  | succ m ih => intro i; rw [wtV, wtV, flV_ext e, ih]
end FL
