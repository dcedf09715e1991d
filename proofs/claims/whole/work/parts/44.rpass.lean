/-! HOURS PASS: the reference -/
theorem up_swap {α : Type} (h : Nat → α) (o p : Nat) (F G : α) (hop : o ≠ p) : va_up (va_up h o F) p G = va_up (va_up h p G) o F := by
  funext j
  unfold va_up
  by_cases a : j = p
  · subst a; simp [Ne.symm hop]
  · by_cases b : j = o
    · subst b; simp [a]
    · simp [a, b]
theorem put_up {h : Nat → Nat → Int32} {o p k : Nat} {X : Nat → Int32} {v : Int32} (hop : p ≠ o) : mvPut (va_up h p X) o k v = va_up (mvPut h o k v) p X := by
  unfold mvPut
  rw [va_up_ne _ _ (Ne.symm hop), up_swap _ _ _ _ _ hop]
theorem lN_rem (a : Nat) (ha : a < 2 ^ 40) : lN a - lN a / lN 30559 * lN 30559 = lN (a % 30559) := by
  rw [← lI_nat, ← lI_nat, ← lI_nat]
  have e : lI (a : Int) / lI ((30559 : Nat) : Int) = lI ((a : Int).tdiv ((30559 : Nat) : Int)) := (Int64.ofInt_tdiv (a := (a : Int)) (b := ((30559 : Nat) : Int)) (show (-9223372036854775808 : Int) ≤ (a : Int) by omega) (show (a : Int) ≤ (9223372036854775807 : Int) by omega) (show (-9223372036854775808 : Int) ≤ ((30559 : Nat) : Int) by omega) (show ((30559 : Nat) : Int) ≤ (9223372036854775807 : Int) by omega)).symm
  rw [e]
  have e2 : (a : Int).tdiv ((30559 : Nat) : Int) = ((a / 30559 : Nat) : Int) := rfl
  rw [e2]
  unfold lI
  rw [← Int64.ofInt_mul, ← Int64.ofInt_sub]
  congr 1
  omega
theorem wrA_full (v : Int32) (A : Nat → Int32) (h30 : A 12 = nI 30) : va_up (va_up (va_up (rw2 1696 29 (fun j => A (1697 + j)) A) 12 (nI 29)) (1696 + 29) v) 12 (nI 30) = wrA v A := by
  unfold wrA
  rw [if_pos (gN_nI h30 (by omega))]
  funext i
  by_cases c : i = 12
  · subst c
    rw [va_up_self, rw2_out (by omega), h30]
  · rw [va_up_ne _ _ c]
    by_cases c2 : i = 1696 + 29
    · subst c2
      rw [va_up_self, rw2_in (by omega), if_pos rfl]
    · rw [va_up_ne _ _ c2, va_up_ne _ _ c]
      by_cases c3 : 1696 ≤ i ∧ i < 1726
      · obtain ⟨j, rfl⟩ := Nat.exists_eq_add_of_le c3.1
        rw [rw2_in (by omega), rw2_in (by omega), if_neg (by omega)]
      · rw [rw2_out (by omega), rw2_out (by omega)]
section RP
variable {L t : Nat} {lt rt rp : Option Nat} {sw : Bool} {h : Nat → Nat → Int32} {gl : Nat → Nat → Int64} {X : Nat → Int32}
theorem r_get1 (b : Nat) (hb : b < 5) : avE 0 187 [.ref 81, .int (nI b), .int (nI 1)] (sX L t lt rt rp sw (va_up h 82 X) gl) (some (.int (X (14 + 5 * b))), sX L t lt rt rp sw (va_up h 82 X) gl) := by
  refine av_eq (r_get b 1 hb (by omega)) ?_
  rw [va_up_self, show 13 + 5 * b + 1 = 14 + 5 * b by omega]
theorem r_get2 (b : Nat) (hb : b < 5) : avE 0 187 [.ref 81, .int (nI b), .int (nI 2)] (sX L t lt rt rp sw (va_up h 82 X) gl) (some (.int (X (15 + 5 * b))), sX L t lt rt rp sw (va_up h 82 X) gl) := by
  refine av_eq (r_get b 2 hb (by omega)) ?_
  rw [va_up_self, show 13 + 5 * b + 2 = 15 + 5 * b by omega]
theorem r_put1 (b : Nat) (v : Int32) (hb : b < 5) : avE 0 191 [.ref 81, .int (nI b), .int (nI 1), .int v] (sX L t lt rt rp sw (va_up h 82 X) gl) (none, sX L t lt rt rp sw (va_up h 82 (va_up X (14 + 5 * b) v)) gl) := by
  refine av_eq (r_put b 1 v hb (by omega)) ?_
  rw [up_put, show 13 + 5 * b + 1 = 14 + 5 * b by omega]
theorem r_put2 (b : Nat) (v : Int32) (hb : b < 5) : avE 0 191 [.ref 81, .int (nI b), .int (nI 2), .int v] (sX L t lt rt rp sw (va_up h 82 X) gl) (none, sX L t lt rt rp sw (va_up h 82 (va_up X (15 + 5 * b) v)) gl) := by
  refine av_eq (r_put b 2 v hb (by omega)) ?_
  rw [up_put, show 13 + 5 * b + 2 = 15 + 5 * b by omega]
theorem r_anew (x : Nat) (hx : x < 30559) (e : h 82 11 = nI x) : avE 0 270 [.ref 81] (sX L t lt rt rp sw h gl) (none, sX L t lt rt rp sw (va_up h 82 (drA (h 82))) gl) := by
  have eg : gN (h 82) 11 = x := gN_nI e (by omega)
  unfold drA
  rw [eg]
  show avA _ 270 0 [.ref 81] [] _ _
  refine a_aload_0 rfl rfl ?_
  refine a_getr rfl rfl rfl (fun _ _ _ => rfl) rfl ?_
  refine a_bipush (v := (nI 11)) rfl rfl rfl ?_
  refine a_aload_0 rfl rfl ?_
  refine a_getr rfl rfl rfl (fun _ _ _ => rfl) rfl ?_
  refine a_bipush (v := (nI 11)) rfl rfl rfl ?_
  refine a_iald rfl rfl (Or.inl rfl) rfl (by omega) (by decide) ?_
  refine a_as (y := nI (x)) e ?_
  refine a_i2lN rfl rfl (by omega) ?_
  refine a_ldc2 (v := lN 439) rfl rfl rfl ?_
  refine a_lmulN rfl rfl ?_
  refine a_ldc2 (v := lN 317) rfl rfl rfl ?_
  refine a_laddN rfl rfl ?_
  refine a_ldc2 (v := lN 30559) rfl rfl rfl ?_
  refine a_lrem rfl rfl (by decide) ?_
  refine a_asL (y := lN ((x * 439 + 317) % 30559)) (lN_rem _ (by omega)) ?_
  refine a_l2iN rfl rfl ?_
  refine a_iast rfl rfl rfl rfl (by omega) (by decide) ?_
  exact a_vret rfl rfl
theorem l_wr (A : Nat → Int32) (b : Nat) (r : Option Value × mvSt) (m : Nat) : ∀ i, i + m = 29 → avA 1 271 56 [.ref 81, .int (nI b), .int (nI 30)] [] (sX L t lt rt rp sw (va_up h 82 (rw2 1696 29 (fun j => A (1697 + j)) A)) gl) r → avA 1 271 22 [.ref 81, .int (nI b), .int (nI (i + 1))] [] (sX L t lt rt rp sw (va_up h 82 (rw2 1696 i (fun j => A (1697 + j)) A)) gl) r := by
  induction m with
  | zero =>
    intro i hi Z
    have e : i = 29 := by omega
    subst e
    refine a_iload_2 rfl rfl ?_
    refine a_bipush (v := (nI 30)) rfl rfl rfl ?_
    refine a_cmpN_ge rfl rfl rfl (by omega) (by omega) (fun _ => ?_) (fun c_25 => False.elim (by omega))
    exact Z
  | succ m ih =>
    intro i hi Z
    refine a_iload_2 rfl rfl ?_
    refine a_bipush (v := (nI 30)) rfl rfl rfl ?_
    refine a_cmpN_ge rfl rfl rfl (by omega) (by omega) (fun c_25 => False.elim (by omega)) (fun _ => ?_)
    refine a_aload_0 rfl rfl ?_
    refine a_getr rfl rfl rfl (fun _ _ _ => rfl) rfl ?_
    refine a_sipush (v := (nI 1696)) rfl rfl rfl ?_
    refine a_iload_2 rfl rfl ?_
    refine a_iaddN rfl rfl ?_
    refine a_iconst (v := (nI 1)) rfl rfl rfl ?_
    refine a_isubN rfl rfl (by omega) ?_
    refine a_as (y := nI (1696 + i)) (congrArg nI (by omega)) ?_
    refine a_aload_0 rfl rfl ?_
    refine a_getr rfl rfl rfl (fun _ _ _ => rfl) rfl ?_
    refine a_sipush (v := (nI 1696)) rfl rfl rfl ?_
    refine a_iload_2 rfl rfl ?_
    refine a_iaddN rfl rfl ?_
    refine a_iald rfl rfl (Or.inl rfl) rfl (by omega) (by decide) ?_
    refine a_as (y := A (1697 + i)) (show rw2 1696 i (fun j => A (1697 + j)) A (1696 + (i + 1)) = A (1697 + i) by rw [rw2_out (by omega)]; congr 1; omega) ?_
    refine a_iast rfl rfl rfl rfl (by omega) (by decide) ?_
    rw [up_put, rw2_s _ _ _ _ rfl]
    refine a_iinc_2 rfl rfl (nI_inc _ _) rfl ?_
    refine a_goto rfl rfl ?_
    exact ih (i + 1) (by omega) Z
theorem r_write (wr : Bool) (b c lg ho w : Nat) (hb : b < 5) (hc : c < 30) (hho : ho ≤ 9999) (hw : w ≤ 30) (hwr : h 81 25 = bB wr) (e8 : X 8 = nI ho) (e12 : X 12 = nI w) (eat : X (13 + 5 * b) = nI c) (el : h 88 c = nI lg) (hl : lg ≤ 15) : avE 1 271 [.ref 81, .int (nI b)] (sX L t lt rt rp sw (va_up h 82 X) gl) (none, sX L t lt rt rp sw (va_up h 82 (bif wr then wrA (nI ((ho * 8 + b) * 16 + lg)) X else X)) gl) := by
  cases wr with
  | false =>
    show avA _ 271 0 [.ref 81, .int (nI (b)), mvU] [] _ _
    refine a_aload_0 rfl rfl ?_
    refine a_geti rfl rfl rfl (fun _ _ _ => rfl) ?_
    refine a_as (y := nI (0)) hwr ?_
    refine a_ifN_ne rfl rfl rfl (by omega) (fun c_4 => False.elim (by omega)) (fun _ => ?_)
    exact a_vret rfl rfl
  | true =>
    show avE 1 271 [.ref 81, .int (nI b)] (sX L t lt rt rp sw (va_up h 82 X) gl) (none, sX L t lt rt rp sw (va_up h 82 (wrA (nI ((ho * 8 + b) * 16 + lg)) X)) gl)
    by_cases c30 : w = 30
    · subst c30
      rw [← wrA_full _ X e12]
      have a12 : rw2 1696 29 (fun j => X (1697 + j)) X 12 = nI 30 := by rw [rw2_out (by omega)]; exact e12
      have a8 : rw2 1696 29 (fun j => X (1697 + j)) X 8 = nI ho := by rw [rw2_out (by omega)]; exact e8
      have aat : (va_up (rw2 1696 29 (fun j => X (1697 + j)) X) 12 (nI 29)) (13 + 5 * b) = nI c := by rw [va_up_ne _ _ (by omega), rw2_out (by omega)]; exact eat
      show avA _ 271 0 [.ref 81, .int (nI (b)), mvU] [] _ _
      refine a_aload_0 rfl rfl ?_
      refine a_geti rfl rfl rfl (fun _ _ _ => rfl) ?_
      refine a_as (y := nI (1)) hwr ?_
      refine a_ifN_ne rfl rfl rfl (by omega) (fun _ => ?_) (fun c_4 => False.elim (by omega))
      refine a_aload_0 rfl rfl ?_
      refine a_getr rfl rfl rfl (fun _ _ _ => rfl) rfl ?_
      refine a_bipush (v := (nI 12)) rfl rfl rfl ?_
      refine a_iald rfl rfl (Or.inl rfl) rfl (by omega) (by decide) ?_
      refine a_as (y := nI (30)) e12 ?_
      refine a_bipush (v := (nI 30)) rfl rfl rfl ?_
      refine a_cmpN_ne rfl rfl rfl (by omega) (by omega) (fun c_17 => False.elim (by omega)) (fun _ => ?_)
      refine a_iconst (v := (nI 1)) rfl rfl rfl ?_
      refine a_istore_2 rfl rfl rfl ?_
      refine av_h (h' := va_up h 82 (rw2 1696 0 (fun j => X (1697 + j)) X)) (by rw [rw2_0]) (l_wr X b _ 29 0 rfl ?_)
      refine a_aload_0 rfl rfl ?_
      refine a_getr rfl rfl rfl (fun _ _ _ => rfl) rfl ?_
      refine a_bipush (v := (nI 12)) rfl rfl rfl ?_
      refine a_dup2 rfl rfl rfl ?_
      refine a_iald rfl rfl (Or.inl rfl) rfl (by omega) (by decide) ?_
      refine a_as (y := nI (30)) a12 ?_
      refine a_iconst (v := (nI 1)) rfl rfl rfl ?_
      refine a_isub rfl rfl ?_
      refine a_as (y := nI (29)) rfl ?_
      refine a_iast rfl rfl rfl rfl (by omega) (by decide) ?_
      rw [up_put]
      refine a_aload_0 rfl rfl ?_
      refine a_getr rfl rfl rfl (fun _ _ _ => rfl) rfl ?_
      refine a_sipush (v := (nI 1696)) rfl rfl rfl ?_
      refine a_aload_0 rfl rfl ?_
      refine a_getr rfl rfl rfl (fun _ _ _ => rfl) rfl ?_
      refine a_bipush (v := (nI 12)) rfl rfl rfl ?_
      refine a_iald rfl rfl (Or.inl rfl) rfl (by omega) (by decide) ?_
      refine a_as (y := nI (29)) rfl ?_
      refine a_iaddN rfl rfl ?_
      refine a_aload_0 rfl rfl ?_
      refine a_getr rfl rfl rfl (fun _ _ _ => rfl) rfl ?_
      refine a_bipush (v := (nI 8)) rfl rfl rfl ?_
      refine a_iald rfl rfl (Or.inl rfl) rfl (by omega) (by decide) ?_
      refine a_as (y := nI (ho)) a8 ?_
      refine a_bipush (v := (nI 8)) rfl rfl rfl ?_
      refine a_imulN rfl rfl ?_
      refine a_iload_1 rfl rfl ?_
      refine a_iaddN rfl rfl ?_
      refine a_bipush (v := (nI 16)) rfl rfl rfl ?_
      refine a_imulN rfl rfl ?_
      refine a_aload_0 rfl rfl ?_
      refine a_getr rfl rfl rfl (fun _ _ _ => rfl) rfl ?_
      refine a_aload_0 rfl rfl ?_
      refine a_iload_1 rfl rfl ?_
      refine a_iconst (v := (nI 0)) rfl rfl rfl ?_
      refine a_virtI rfl rfl (r_get b 0 hb (by omega)) (Nat.le_of_ble_eq_true rfl) ⟨rfl, rfl, rfl, rfl⟩ rfl rfl rfl (Nat.le_of_ble_eq_true rfl) rfl rfl ?_
      refine a_as (y := nI (c)) aat ?_
      refine a_iald rfl rfl (Or.inl rfl) rfl (by omega) (by decide) ?_
      refine a_as (y := nI (lg)) el ?_
      refine a_iaddN rfl rfl ?_
      refine a_iast rfl rfl rfl rfl (by omega) (by decide) ?_
      rw [up_put]
      refine a_aload_0 rfl rfl ?_
      refine a_getr rfl rfl rfl (fun _ _ _ => rfl) rfl ?_
      refine a_bipush (v := (nI 12)) rfl rfl rfl ?_
      refine a_dup2 rfl rfl rfl ?_
      refine a_iald rfl rfl (Or.inl rfl) rfl (by omega) (by decide) ?_
      refine a_as (y := nI (29)) rfl ?_
      refine a_iconst (v := (nI 1)) rfl rfl rfl ?_
      refine a_iaddN rfl rfl ?_
      refine a_as (y := nI 30) rfl ?_
      refine a_iast rfl rfl rfl rfl (by omega) (by decide) ?_
      rw [up_put]
      exact a_vret rfl rfl
    · have ew : wrA (nI ((ho * 8 + b) * 16 + lg)) X = va_up (va_up X (1696 + w) (nI ((ho * 8 + b) * 16 + lg))) 12 (nI (w + 1)) := by
        unfold wrA
        have eg : gN X 12 = w := gN_nI e12 (by omega)
        rw [eg, if_neg c30]
      rw [ew]
      show avA _ 271 0 [.ref 81, .int (nI (b)), mvU] [] _ _
      refine a_aload_0 rfl rfl ?_
      refine a_geti rfl rfl rfl (fun _ _ _ => rfl) ?_
      refine a_as (y := nI (1)) hwr ?_
      refine a_ifN_ne rfl rfl rfl (by omega) (fun _ => ?_) (fun c_4 => False.elim (by omega))
      refine a_aload_0 rfl rfl ?_
      refine a_getr rfl rfl rfl (fun _ _ _ => rfl) rfl ?_
      refine a_bipush (v := (nI 12)) rfl rfl rfl ?_
      refine a_iald rfl rfl (Or.inl rfl) rfl (by omega) (by decide) ?_
      refine a_as (y := nI (w)) e12 ?_
      refine a_bipush (v := (nI 30)) rfl rfl rfl ?_
      refine a_cmpN_ne rfl rfl rfl (by omega) (by omega) (fun _ => ?_) (fun c_17 => False.elim (by omega))
      refine a_aload_0 rfl rfl ?_
      refine a_getr rfl rfl rfl (fun _ _ _ => rfl) rfl ?_
      refine a_sipush (v := (nI 1696)) rfl rfl rfl ?_
      refine a_aload_0 rfl rfl ?_
      refine a_getr rfl rfl rfl (fun _ _ _ => rfl) rfl ?_
      refine a_bipush (v := (nI 12)) rfl rfl rfl ?_
      refine a_iald rfl rfl (Or.inl rfl) rfl (by omega) (by decide) ?_
      refine a_as (y := nI (w)) e12 ?_
      refine a_iaddN rfl rfl ?_
      refine a_aload_0 rfl rfl ?_
      refine a_getr rfl rfl rfl (fun _ _ _ => rfl) rfl ?_
      refine a_bipush (v := (nI 8)) rfl rfl rfl ?_
      refine a_iald rfl rfl (Or.inl rfl) rfl (by omega) (by decide) ?_
      refine a_as (y := nI (ho)) e8 ?_
      refine a_bipush (v := (nI 8)) rfl rfl rfl ?_
      refine a_imulN rfl rfl ?_
      refine a_iload_1 rfl rfl ?_
      refine a_iaddN rfl rfl ?_
      refine a_bipush (v := (nI 16)) rfl rfl rfl ?_
      refine a_imulN rfl rfl ?_
      refine a_aload_0 rfl rfl ?_
      refine a_getr rfl rfl rfl (fun _ _ _ => rfl) rfl ?_
      refine a_aload_0 rfl rfl ?_
      refine a_iload_1 rfl rfl ?_
      refine a_iconst (v := (nI 0)) rfl rfl rfl ?_
      refine a_virtI rfl rfl (r_get b 0 hb (by omega)) (Nat.le_of_ble_eq_true rfl) ⟨rfl, rfl, rfl, rfl⟩ rfl rfl rfl (Nat.le_of_ble_eq_true rfl) rfl rfl ?_
      refine a_as (y := nI (c)) eat ?_
      refine a_iald rfl rfl (Or.inl rfl) rfl (by omega) (by decide) ?_
      refine a_as (y := nI (lg)) el ?_
      refine a_iaddN rfl rfl ?_
      refine a_iast rfl rfl rfl rfl (by omega) (by decide) ?_
      rw [up_put]
      refine a_aload_0 rfl rfl ?_
      refine a_getr rfl rfl rfl (fun _ _ _ => rfl) rfl ?_
      refine a_bipush (v := (nI 12)) rfl rfl rfl ?_
      refine a_dup2 rfl rfl rfl ?_
      refine a_iald rfl rfl (Or.inl rfl) rfl (by omega) (by decide) ?_
      refine a_as (y := nI (w)) (show va_up X (1696 + w) _ 12 = nI w by rw [va_up_ne _ _ (by omega)]; exact e12) ?_
      refine a_iconst (v := (nI 1)) rfl rfl rfl ?_
      refine a_iaddN rfl rfl ?_
      refine a_iast rfl rfl rfl rfl (by omega) (by decide) ?_
      rw [up_put]
      exact a_vret rfl rfl
theorem clN_s (a m : Nat) : clN ((a : Int) + 1) m = min m (a + 1) := by unfold clN; omega
theorem clN_p (a m : Nat) (h : a ≤ m) : clN ((a : Int) - 1) m = a - 1 := by unfold clN; omega
theorem clN_m (a m : Nat) (h : a ≤ m) : clN ((a : Int) + -1) m = a - 1 := by unfold clN; omega
theorem r_live (wr : Bool) (A : Nat → Int32) (fl : Nat → Option (E1 → Int)) (mo : Int32) (b ho kk : Nat) (hb : b < 5) (hX : rOK (h 82)) (e8 : h 82 8 = nI ho) (hho : ho ≤ 9999) (hwr : h 81 25 = bB wr) (hkk : h 81 26 = nI kk) (hLT : ∀ k, k < 30 → h 88 k = nI (ltV (fl 0) A ho (szN ho) mo k)) (hT : txR (h 84) (h 82 2) 2 (fl 2)) : ∃ h' gl', avE 5 268 [.ref 81, .int (nI b)] (sX L t lt rt rp sw h gl) (none, sX L t lt rt rp sw h' gl') ∧ CF [81, 82, 87, 90] h h' ∧ h' 82 = lvA wr (kcV fl A ho (szN ho) mo (h 82 (14 + 5 * b)) (h 82 (13 + 5 * b)) b) (ltC (fl 0) A ho (szN ho) mo (h 82 (13 + 5 * b))) b (h 82) ∧ (∀ j, j ≠ 26 → h' 81 j = h 81 j) ∧ h' 81 26 = nI (kk + (if gN (h 82) 11 % 10 < kcV fl A ho (szN ho) mo (h 82 (14 + 5 * b)) (h 82 (13 + 5 * b)) b then 1 else 0)) := by
  have bm := hX (14 + 5 * b) (by omega)
  have ba := hX (13 + 5 * b) (by omega)
  unfold inB at bm ba
  rw [bd_mood hb] at bm
  rw [bd_at hb] at ba
  dsimp only at bm ba
  obtain ⟨h1, gl1, Ck, c1⟩ := r_kicksOf (L := L) (t := t) (lt := lt) (rt := rt) (rp := rp) (sw := sw) (gl := gl) A b ho mo fl hb hho e8 bm ⟨by omega, by omega⟩ hLT hT
  have hkc := kcV_le fl A ho (szN ho) mo (h 82 (14 + 5 * b)) (h 82 (13 + 5 * b)) b
  have q82 : h1 82 = h 82 := c1 82 rfl
  have q81 : h1 81 = h 81 := c1 81 rfl
  have q88 : h1 88 = h 88 := c1 88 rfl
  have x11 := gN_le (m := 30558) hX (i := 11) (by omega) (by decide)
  have e11 : h1 82 11 = nI (gN (h 82) 11) := by rw [q82]; exact gN_eq hX (by omega) (by decide)
  have Ca := r_anew (L := L) (t := t) (lt := lt) (rt := rt) (rp := rp) (sw := sw) (gl := gl1) (h := h1) (gN (h 82) 11) (by omega) e11
  rw [q82] at Ca
  have hD := drA_OK hX
  have emd : drA (h 82) (14 + 5 * b) = nI (gN (drA (h 82)) (14 + 5 * b)) := gN_eq hD (by omega) (by rw [bd_mood hb]; decide)
  have hmd := gN_le (m := 9) hD (i := 14 + 5 * b) (by omega) (by rw [bd_mood hb]; decide)
  by_cases hk : gN (h 82) 11 % 10 < kcV fl A ho (szN ho) mo (h 82 (14 + 5 * b)) (h 82 (13 + 5 * b)) b
  · obtain ⟨c, hc, ec⟩ := inC_of (show inC (h 82 (13 + 5 * b)) from ⟨by omega, by omega⟩)
    have hlg := ltV_le (fl 0) A ho (szN ho) mo c
    have elg : ltC (fl 0) A ho (szN ho) mo (h 82 (13 + 5 * b)) = ltV (fl 0) A ho (szN ho) mo c := by rw [ec]; exact ltC_N _ _ _ _ _ hc
    have ekk : drA (h 82) (15 + 5 * b) = nI (gN (drA (h 82)) (15 + 5 * b)) := gN_eq hD (by omega) (by rw [bd_kick hb]; decide)
    have hk9 := gN_le (m := 999) hD (i := 15 + 5 * b) (by omega) (by rw [bd_kick hb]; decide)
    have esi : drA (h 82) 10 = nI (gN (drA (h 82)) 10) := gN_eq hD (by omega) (by decide)
    have hs9 := gN_le (m := 9999) hD (i := 10) (by omega) (by decide)
    have e12 : k3A b (drA (h 82)) 12 = nI (gN (h 82) 12) := by
      rw [k3A_ne (by omega) (by omega) (by omega), drA_ne (by omega)]
      exact gN_eq hX (by omega) (by decide)
    have h12 := gN_le (m := 30) hX (i := 12) (by omega) (by decide)
    have e8' : k3A b (drA (h 82)) 8 = nI ho := by
      rw [k3A_ne (by omega) (by omega) (by omega), drA_ne (by omega)]
      exact e8
    have eat : k3A b (drA (h 82)) (13 + 5 * b) = nI c := by
      rw [k3A_ne (by omega) (by omega) (by omega), drA_ne (by omega)]
      exact ec
    have eg8 : gN (drA (h 82)) 8 = ho := gN_nI (by rw [drA_ne (by omega)]; exact e8) (by omega)
    have Cw := r_write (L := L) (t := t) (lt := lt) (rt := rt) (rp := rp) (sw := sw) (gl := gl1) (h := mvPut h1 81 26 (nI (kk + 1))) (X := k3A b (drA (h 82))) wr b c (ltV (fl 0) A ho (szN ho) mo c) ho (gN (h 82) 12) hb hc hho h12 (by show h1 81 25 = _; rw [q81]; exact hwr) e8' e12 eat (by show h1 88 c = _; rw [q88]; exact hLT c hc) hlg
    refine ⟨va_up (mvPut h1 81 26 (nI (kk + 1))) 82 (bif wr then wrA (nI ((ho * 8 + b) * 16 + ltV (fl 0) A ho (szN ho) mo c)) (k3A b (drA (h 82))) else k3A b (drA (h 82))), gl1, ?_, CF_trans (CF_mono (by decide) c1) (CF_up (CF_put CF_refl rfl) rfl), ?_, ?_, ?_⟩
    · show avA _ 268 0 [.ref 81, .int (nI (b)), mvU, mvU] [] _ _
      refine a_aload_0 rfl rfl ?_
      refine a_iload_1 rfl rfl ?_
      refine a_virtI rfl rfl (Ck) (Nat.le_of_ble_eq_true rfl) ⟨rfl, rfl, rfl, rfl⟩ rfl rfl rfl (Nat.le_of_ble_eq_true rfl) rfl rfl ?_
      refine a_istore_2 rfl rfl rfl ?_
      refine a_aload_0 rfl rfl ?_
      refine a_getr rfl rfl rfl (fun _ _ _ => rfl) rfl ?_
      refine a_bipush (v := (nI 11)) rfl rfl rfl ?_
      refine a_iald rfl rfl (Or.inl rfl) rfl (by omega) (by decide) ?_
      refine a_as (y := nI (gN (h 82) 11)) e11 ?_
      refine a_bipush (v := (nI 10)) rfl rfl rfl ?_
      refine a_iremN rfl rfl (by omega) (by omega) (by omega) ?_
      refine a_iload_2 rfl rfl ?_
      refine a_cmpN_ge rfl rfl rfl (by omega) (by omega) (fun c_17 => False.elim (by omega)) (fun _ => ?_)
      refine a_iconst (v := (nI 1)) rfl rfl rfl ?_
      refine a_goto rfl rfl ?_
      refine a_istore_3 rfl rfl rfl ?_
      refine a_aload_0 rfl rfl ?_
      refine a_virt0 rfl rfl (Ca) (Nat.le_of_ble_eq_true rfl) ⟨rfl, rfl, rfl, rfl⟩ rfl rfl rfl (Nat.le_of_ble_eq_true rfl) rfl rfl ?_
      refine a_aload_0 rfl rfl ?_
      refine a_iload_1 rfl rfl ?_
      refine a_iconst (v := (nI 1)) rfl rfl rfl ?_
      refine a_aload_0 rfl rfl ?_
      refine a_iload_1 rfl rfl ?_
      refine a_iconst (v := (nI 1)) rfl rfl rfl ?_
      refine a_virtI rfl rfl (r_get1 b hb) (Nat.le_of_ble_eq_true rfl) ⟨rfl, rfl, rfl, rfl⟩ rfl rfl rfl (Nat.le_of_ble_eq_true rfl) rfl rfl ?_
      refine a_as (y := iI ((gN (drA (h 82)) (14 + 5 * b) : Int))) (emd.trans (iI_nat _).symm) ?_
      refine a_iload_3 rfl rfl ?_
      refine a_ifN_eq rfl rfl rfl (by omega) (fun c_40 => absurd c_40 (by decide)) (fun _ => ?_)
      refine a_iconst (v := iI (1)) rfl rfl rfl ?_
      refine a_goto rfl rfl ?_
      refine a_iaddZ rfl rfl ?_
      refine a_i2lZ rfl rfl (by omega) ?_
      refine a_iconst (v := (nI 0)) rfl rfl rfl ?_
      refine a_bipush (v := (nI 9)) rfl rfl rfl ?_
      refine a_statI rfl rfl (r_cut _ 9 (by omega) (by omega)) (Nat.le_of_ble_eq_true rfl) ⟨rfl, rfl, rfl⟩ rfl rfl rfl (Nat.le_of_ble_eq_true rfl) rfl ?_
      refine a_as (y := nI (min 9 (gN (drA (h 82)) (14 + 5 * b) + 1))) (congrArg nI (clN_s _ _)) ?_
      refine a_virt0 rfl rfl (r_put1 b _ hb) (Nat.le_of_ble_eq_true rfl) ⟨rfl, rfl, rfl, rfl⟩ rfl rfl rfl (Nat.le_of_ble_eq_true rfl) rfl rfl ?_
      refine a_iload_3 rfl rfl ?_
      refine a_ifN_ne rfl rfl rfl (by omega) (fun _ => ?_) (fun c_60 => absurd c_60 (by decide))
      refine a_aload_0 rfl rfl ?_
      refine a_iload_1 rfl rfl ?_
      refine a_iconst (v := (nI 2)) rfl rfl rfl ?_
      refine a_aload_0 rfl rfl ?_
      refine a_iload_1 rfl rfl ?_
      refine a_iconst (v := (nI 2)) rfl rfl rfl ?_
      refine a_virtI rfl rfl (r_get2 b hb) (Nat.le_of_ble_eq_true rfl) ⟨rfl, rfl, rfl, rfl⟩ rfl rfl rfl (Nat.le_of_ble_eq_true rfl) rfl rfl ?_
      refine a_as (y := iI ((gN (drA (h 82)) (15 + 5 * b) : Int))) ((show va_up (drA (h 82)) (14 + 5 * b) _ (15 + 5 * b) = _ by rw [va_up_ne _ _ (by omega)]; exact ekk).trans (iI_nat _).symm) ?_
      refine a_iconst (v := iI (1)) rfl rfl rfl ?_
      refine a_iaddZ rfl rfl ?_
      refine a_i2lZ rfl rfl (by omega) ?_
      refine a_iconst (v := (nI 0)) rfl rfl rfl ?_
      refine a_sipush (v := (nI 999)) rfl rfl rfl ?_
      refine a_statI rfl rfl (r_cut _ 999 (by omega) (by omega)) (Nat.le_of_ble_eq_true rfl) ⟨rfl, rfl, rfl⟩ rfl rfl rfl (Nat.le_of_ble_eq_true rfl) rfl ?_
      refine a_as (y := nI (min 999 (gN (drA (h 82)) (15 + 5 * b) + 1))) (congrArg nI (clN_s _ _)) ?_
      refine a_virt0 rfl rfl (r_put2 b _ hb) (Nat.le_of_ble_eq_true rfl) ⟨rfl, rfl, rfl, rfl⟩ rfl rfl rfl (Nat.le_of_ble_eq_true rfl) rfl rfl ?_
      refine a_aload_0 rfl rfl ?_
      refine a_getr rfl rfl rfl (fun _ _ _ => rfl) rfl ?_
      refine a_bipush (v := (nI 10)) rfl rfl rfl ?_
      refine a_aload_0 rfl rfl ?_
      refine a_getr rfl rfl rfl (fun _ _ _ => rfl) rfl ?_
      refine a_bipush (v := (nI 10)) rfl rfl rfl ?_
      refine a_iald rfl rfl (Or.inl rfl) rfl (by omega) (by decide) ?_
      refine a_as (y := iI ((gN (drA (h 82)) 10 : Int))) ((show va_up (va_up (drA (h 82)) (14 + 5 * b) _) (15 + 5 * b) _ 10 = _ by rw [va_up_ne _ _ (by omega), va_up_ne _ _ (by omega)]; exact esi).trans (iI_nat _).symm) ?_
      refine a_iconst (v := iI (1)) rfl rfl rfl ?_
      refine a_isubZ rfl rfl ?_
      refine a_i2lZ rfl rfl (by omega) ?_
      refine a_iconst (v := (nI 0)) rfl rfl rfl ?_
      refine a_sipush (v := (nI 9999)) rfl rfl rfl ?_
      refine a_statI rfl rfl (r_cut _ 9999 (by omega) (by omega)) (Nat.le_of_ble_eq_true rfl) ⟨rfl, rfl, rfl⟩ rfl rfl rfl (Nat.le_of_ble_eq_true rfl) rfl ?_
      refine a_as (y := nI (gN (drA (h 82)) 10 - 1)) (congrArg nI (clN_p _ _ (by omega))) ?_
      refine a_iast rfl rfl rfl rfl (by omega) (by decide) ?_
      rw [up_put]
      refine a_aload_0 rfl rfl ?_
      refine a_dup rfl rfl rfl ?_
      refine a_geti rfl rfl rfl (fun _ _ _ => rfl) ?_
      refine a_as (y := nI (kk)) (show h1 81 26 = nI kk by rw [q81]; exact hkk) ?_
      refine a_iconst (v := (nI 1)) rfl rfl rfl ?_
      refine a_iaddN rfl rfl ?_
      refine a_puti rfl rfl rfl rfl ?_
      rw [put_up (by decide)]
      refine a_aload_0 rfl rfl ?_
      refine a_iload_1 rfl rfl ?_
      refine a_virt0 rfl rfl (Cw) (Nat.le_of_ble_eq_true rfl) ⟨rfl, rfl, rfl, rfl⟩ rfl rfl rfl (Nat.le_of_ble_eq_true rfl) rfl rfl ?_
      exact a_vret rfl rfl
    · show (bif wr then _ else _) = _
      unfold lvA
      rw [if_pos hk, elg]
      unfold kkA
      rw [eg8]
    · intro j hj
      show va_up (h1 81) 26 _ j = _
      rw [va_up_ne _ _ hj, q81]
    · rw [if_pos hk]
      rfl
  · refine ⟨va_up h1 82 (mdA b (drA (h 82))), gl1, ?_, CF_trans (CF_mono (by decide) c1) (CF_up CF_refl rfl), ?_, ?_, ?_⟩
    · show avA _ 268 0 [.ref 81, .int (nI (b)), mvU, mvU] [] _ _
      refine a_aload_0 rfl rfl ?_
      refine a_iload_1 rfl rfl ?_
      refine a_virtI rfl rfl (Ck) (Nat.le_of_ble_eq_true rfl) ⟨rfl, rfl, rfl, rfl⟩ rfl rfl rfl (Nat.le_of_ble_eq_true rfl) rfl rfl ?_
      refine a_istore_2 rfl rfl rfl ?_
      refine a_aload_0 rfl rfl ?_
      refine a_getr rfl rfl rfl (fun _ _ _ => rfl) rfl ?_
      refine a_bipush (v := (nI 11)) rfl rfl rfl ?_
      refine a_iald rfl rfl (Or.inl rfl) rfl (by omega) (by decide) ?_
      refine a_as (y := nI (gN (h 82) 11)) e11 ?_
      refine a_bipush (v := (nI 10)) rfl rfl rfl ?_
      refine a_iremN rfl rfl (by omega) (by omega) (by omega) ?_
      refine a_iload_2 rfl rfl ?_
      refine a_cmpN_ge rfl rfl rfl (by omega) (by omega) (fun _ => ?_) (fun c_17 => False.elim (by omega))
      refine a_iconst (v := (nI 0)) rfl rfl rfl ?_
      refine a_istore_3 rfl rfl rfl ?_
      refine a_aload_0 rfl rfl ?_
      refine a_virt0 rfl rfl (Ca) (Nat.le_of_ble_eq_true rfl) ⟨rfl, rfl, rfl, rfl⟩ rfl rfl rfl (Nat.le_of_ble_eq_true rfl) rfl rfl ?_
      refine a_aload_0 rfl rfl ?_
      refine a_iload_1 rfl rfl ?_
      refine a_iconst (v := (nI 1)) rfl rfl rfl ?_
      refine a_aload_0 rfl rfl ?_
      refine a_iload_1 rfl rfl ?_
      refine a_iconst (v := (nI 1)) rfl rfl rfl ?_
      refine a_virtI rfl rfl (r_get1 b hb) (Nat.le_of_ble_eq_true rfl) ⟨rfl, rfl, rfl, rfl⟩ rfl rfl rfl (Nat.le_of_ble_eq_true rfl) rfl rfl ?_
      refine a_as (y := iI ((gN (drA (h 82)) (14 + 5 * b) : Int))) (emd.trans (iI_nat _).symm) ?_
      refine a_iload_3 rfl rfl ?_
      refine a_ifN_eq rfl rfl rfl (by omega) (fun _ => ?_) (fun c_40 => absurd c_40 (by decide))
      refine a_iconst (v := iI (-1)) rfl rfl rfl ?_
      refine a_iaddZ rfl rfl ?_
      refine a_i2lZ rfl rfl (by omega) ?_
      refine a_iconst (v := (nI 0)) rfl rfl rfl ?_
      refine a_bipush (v := (nI 9)) rfl rfl rfl ?_
      refine a_statI rfl rfl (r_cut _ 9 (by omega) (by omega)) (Nat.le_of_ble_eq_true rfl) ⟨rfl, rfl, rfl⟩ rfl rfl rfl (Nat.le_of_ble_eq_true rfl) rfl ?_
      refine a_as (y := nI (gN (drA (h 82)) (14 + 5 * b) - 1)) (congrArg nI (clN_m _ _ (by omega))) ?_
      refine a_virt0 rfl rfl (r_put1 b _ hb) (Nat.le_of_ble_eq_true rfl) ⟨rfl, rfl, rfl, rfl⟩ rfl rfl rfl (Nat.le_of_ble_eq_true rfl) rfl rfl ?_
      refine a_iload_3 rfl rfl ?_
      refine a_ifN_ne rfl rfl rfl (by omega) (fun c_60 => absurd c_60 (by decide)) (fun _ => ?_)
      exact a_vret rfl rfl
    · show mdA b (drA (h 82)) = _
      unfold lvA
      rw [if_neg hk]
    · intro j hj
      show h1 81 j = _
      rw [q81]
    · rw [if_neg hk]
      show h1 81 26 = _
      rw [q81]
      exact hkk
theorem l_rpass (wr : Bool) (A : Nat → Int32) (fl : Nat → Option (E1 → Int)) (mo y1 : Int32) (ho n : Nat) (hho : ho ≤ 9999) (hn : n ≤ 5) (tx : Int32) (k0 : Nat) (j : Nat) : ∀ (b kk : Nat) (h : Nat → Nat → Int32) (gl : Nat → Nat → Int64), b + j = n → rOK (h 82) → gN (h 82) 0 = n → h 82 8 = nI ho → h 82 2 = tx → h 81 25 = bB wr → h 81 26 = nI (k0 + kk) → (∀ k, k < 30 → h 88 k = nI (ltV (fl 0) A ho (szN ho) mo k)) → txR (h 84) tx 2 (fl 2) → ∃ h' gl', avA 8 251 42 [.ref 81, .int y1, .int (nI b)] [] (sX L t lt rt rp sw h gl) (none, sX L t lt rt rp sw h' gl') ∧ CF [81, 82, 87, 90] h h' ∧ h' 82 = va_up (lvR wr (fun B b => kcV fl A ho (szN ho) mo (B (14 + 5 * b)) (B (13 + 5 * b)) b) (fun B b => ltC (fl 0) A ho (szN ho) mo (B (13 + 5 * b))) j b (h 82) kk).1 8 (nI (ho + 1)) ∧ (∀ j, j ≠ 26 → h' 81 j = h 81 j) ∧ h' 81 26 = nI (k0 + (lvR wr (fun B b => kcV fl A ho (szN ho) mo (B (14 + 5 * b)) (B (13 + 5 * b)) b) (fun B b => ltC (fl 0) A ho (szN ho) mo (B (13 + 5 * b))) j b (h 82) kk).2) := by
  induction j with
  | zero =>
    intro b kk h gl hb hX h0 e8 e2 hwr hkk hLT hT
    have e0 : h 82 0 = nI n := by rw [← h0]; exact gN_eq hX (by omega) (by decide)
    refine ⟨va_up h 82 (va_up (h 82) 8 (nI (ho + 1))), gl, ?_, CF_up CF_refl rfl, rfl, fun _ _ => rfl, hkk⟩
    refine a_iload_2 rfl rfl ?_
    refine a_aload_0 rfl rfl ?_
    refine a_getr rfl rfl rfl (fun _ _ _ => rfl) rfl ?_
    refine a_iconst (v := (nI 0)) rfl rfl rfl ?_
    refine a_iald rfl rfl (Or.inl rfl) rfl (by omega) (by decide) ?_
    refine a_as (y := nI (n)) e0 ?_
    refine a_cmpN_ge rfl rfl rfl (by omega) (by omega) (fun _ => ?_) (fun c_49 => False.elim (by omega))
    refine a_aload_0 rfl rfl ?_
    refine a_getr rfl rfl rfl (fun _ _ _ => rfl) rfl ?_
    refine a_bipush (v := (nI 8)) rfl rfl rfl ?_
    refine a_dup2 rfl rfl rfl ?_
    refine a_iald rfl rfl (Or.inl rfl) rfl (by omega) (by decide) ?_
    refine a_as (y := nI (ho)) e8 ?_
    refine a_iconst (v := (nI 1)) rfl rfl rfl ?_
    refine a_iaddN rfl rfl ?_
    refine a_iast rfl rfl rfl rfl (by omega) (by decide) ?_
    exact a_vret rfl rfl
  | succ j ih =>
    intro b kk h gl hb hX h0 e8 e2 hwr hkk hLT hT
    have e0 : h 82 0 = nI n := by rw [← h0]; exact gN_eq hX (by omega) (by decide)
    obtain ⟨h1, gl1, C1, c1, d1, d2, d3⟩ := r_live (L := L) (t := t) (lt := lt) (rt := rt) (rp := rp) (sw := sw) (gl := gl) wr A fl mo b ho (k0 + kk) (by omega) hX e8 hho hwr hkk hLT (by rw [e2]; exact hT)
    have hl15 := ltC_le (fl 0) A ho (szN ho) mo (h 82 (13 + 5 * b))
    have O1 : rOK (h1 82) := by rw [d1]; exact lvA_OK (by omega) hl15 hX
    have s : ∀ i, stay i → h1 82 i = h 82 i := fun i hi => by
      rw [d1]
      exact lvA_lo hi.1 hi.2.1 hi.2.2.1 hi.2.2.2.1 (hi.2.2.2.2 b (by omega)).1 (hi.2.2.2.2 b (by omega)).2
    obtain ⟨h', gl', A2, c2, g1, g2, g3⟩ := ih (b + 1) (kk + (if gN (h 82) 11 % 10 < kcV fl A ho (szN ho) mo (h 82 (14 + 5 * b)) (h 82 (13 + 5 * b)) b then 1 else 0)) h1 gl1 (by omega) O1 (by unfold gN; rw [s 0 (stay_of (by omega))]; exact h0) (by rw [s 8 (stay_of (by omega))]; exact e8) (by rw [s 2 (stay_of (by omega))]; exact e2) (by rw [d2 25 (by omega)]; exact hwr) (by rw [d3]; congr 1; omega) (by rw [c1 88 rfl]; exact hLT) (by rw [c1 84 rfl]; exact hT)
    refine ⟨h', gl', ?_, CF_trans c1 c2, ?_, fun j hj => (g2 j hj).trans (d2 j hj), ?_⟩
    · refine a_iload_2 rfl rfl ?_
      refine a_aload_0 rfl rfl ?_
      refine a_getr rfl rfl rfl (fun _ _ _ => rfl) rfl ?_
      refine a_iconst (v := (nI 0)) rfl rfl rfl ?_
      refine a_iald rfl rfl (Or.inl rfl) rfl (by omega) (by decide) ?_
      refine a_as (y := nI (n)) e0 ?_
      refine a_cmpN_ge rfl rfl rfl (by omega) (by omega) (fun c_49 => False.elim (by omega)) (fun _ => ?_)
      refine a_aload_0 rfl rfl ?_
      refine a_iload_2 rfl rfl ?_
      refine a_virt0 rfl rfl (C1) (Nat.le_of_ble_eq_true rfl) ⟨rfl, rfl, rfl, rfl⟩ rfl rfl rfl (Nat.le_of_ble_eq_true rfl) rfl rfl ?_
      refine a_iinc_2 rfl rfl (nI_inc _ _) rfl ?_
      refine a_goto rfl rfl ?_
      exact A2
    · rw [g1, d1]
      rfl
    · rw [g3, d1]
      rfl
theorem r_pass (wr : Bool) (fl : Nat → Option (E1 → Int)) (k0 : Nat) (hX : rOK (h 82)) (h8 : gN (h 82) 8 < 9999) (hwr : h 81 25 = bB wr) (hkk : h 81 26 = nI k0) (hT : ∀ s, s < 3 → txR (h 84) (h 82 2) s (fl s)) : ∃ h' gl', avE 8 251 [.ref 81] (sX L t lt rt rp sw h gl) (none, sX L t lt rt rp sw h' gl') ∧ CF [81, 82, 87, 88, 90, 91] h h' ∧ h' 82 = (psA wr fl (h 82)).1 ∧ (∀ j, j ≠ 26 → h' 81 j = h 81 j) ∧ h' 81 26 = nI (k0 + (psA wr fl (h 82)).2) := by
  have b9 : -1 ≤ (h 82 9).toInt ∧ (h 82 9).toInt ≤ 29 := hX 9 (by omega)
  have hp : h 82 9 = -1 ∨ inC (h 82 9) := by
    by_cases c : (h 82 9).toInt = -1
    · exact Or.inl (Int32.toInt_inj.mp (by rw [c]; decide))
    · exact Or.inr ⟨by omega, by omega⟩
  have h0 := gN_le (m := 5) hX (i := 0) (by omega) (by decide)
  have e8 : h 82 8 = nI (gN (h 82) 8) := gN_eq hX (by omega) (by decide)
  have b10 : 0 ≤ (h 82 10).toInt ∧ (h 82 10).toInt ≤ 9999 := hX 10 (by omega)
  have e10 : h 82 10 = nI (gN (h 82) 10) := gN_eq hX (by omega) (by decide)
  have h10 := gN_le (m := 9999) hX (i := 10) (by omega) (by decide)
  have hpy := pyV_le fl (h 82) (gN (h 82) 8) (szN (gN (h 82) 8)) (h 82 9) (h 82 10).toInt
  obtain ⟨h1, gl1, C1, c1, k1⟩ := r_paysNow (L := L) (t := t) (lt := lt) (rt := rt) (rp := rp) (sw := sw) (gl := gl) (gN (h 82) 8) fl (by omega) e8 (rOK_clOK hX) hp b10 hT
  have q82 : h1 82 = h 82 := c1 82 rfl
  have q81 : h1 81 = h 81 := c1 81 rfl
  have q84 : h1 84 = h 84 := c1 84 rfl
  have q1 : ∀ i, i ≠ 10 → p1A fl (h 82) i = h 82 i := fun i hi => p1A_ne hi
  obtain ⟨h', gl', A2, c2, g1, g2, g3⟩ := l_rpass (L := L) (t := t) (lt := lt) (rt := rt) (rp := rp) (sw := sw) wr (h 82) fl (h 82 9) (nI (pyV fl (h 82) (gN (h 82) 8) (szN (gN (h 82) 8)) (h 82 9) (h 82 10).toInt)) (gN (h 82) 8) (gN (h 82) 0) (by omega) h0 (h 82 2) k0 (gN (h 82) 0) 0 0 (va_up h1 82 (p1A fl (h 82))) gl1 (by omega) (p1A_OK hX) (by show gN (p1A fl (h 82)) 0 = _; unfold gN; rw [q1 0 (by omega)]) (by show p1A fl (h 82) 8 = _; rw [q1 8 (by omega)]; exact e8) (q1 2 (by omega)) (by show h1 81 25 = _; rw [q81]; exact hwr) (by show h1 81 26 = _; rw [q81]; exact hkk) k1 (by show txR (h1 84) _ _ _; rw [q84]; exact hT 2 (by omega))
  refine ⟨h', gl', ?_, CF_trans (CF_mono (by decide) c1) (CF_trans (CF_up CF_refl rfl) (CF_mono (by decide) c2)), g1, fun j hj => (g2 j hj).trans (by show h1 81 j = _; rw [q81]), g3⟩
  by_cases q : h 82 9 = -1
  · have ep : p1A fl (h 82) = h 82 := by unfold p1A; rw [if_pos q]
    rw [ep, ← q82, up_id] at A2
    show avA _ 251 0 [.ref 81, mvU, mvU] [] _ _
    refine a_aload_0 rfl rfl ?_
    refine a_virtI rfl rfl (C1) (Nat.le_of_ble_eq_true rfl) ⟨rfl, rfl, rfl, rfl⟩ rfl rfl rfl (Nat.le_of_ble_eq_true rfl) rfl rfl ?_
    refine a_istore_1 rfl rfl rfl ?_
    refine a_aload_0 rfl rfl ?_
    refine a_getr rfl rfl rfl (fun _ _ _ => rfl) rfl ?_
    refine a_bipush (v := (nI 9)) rfl rfl rfl ?_
    refine a_iald rfl rfl (Or.inl rfl) rfl (by omega) (by decide) ?_
    refine a_as (y := -1) (show h1 82 9 = -1 by rw [q82]; exact q) ?_
    refine a_iconst (v := (-1)) rfl rfl rfl ?_
    refine a_cmp_eq rfl rfl rfl (fun _ => ?_) (fun c_13 => by first | exact absurd rfl c_13 | exact absurd c_13 rfl)
    refine a_iconst (v := (nI 0)) rfl rfl rfl ?_
    refine a_istore_2 rfl rfl rfl ?_
    rw [q82] at A2; exact A2
  · have ep : p1A fl (h 82) = va_up (h 82) 10 (nI (min 9999 (gN (h 82) 10 + pyV fl (h 82) (gN (h 82) 8) (szN (gN (h 82) 8)) (h 82 9) (h 82 10).toInt))) := by unfold p1A; rw [if_neg q]
    rw [ep] at A2
    have ec : clN ((gN (h 82) 10 : Int) + (pyV fl (h 82) (gN (h 82) 8) (szN (gN (h 82) 8)) (h 82 9) (h 82 10).toInt : Nat)) 9999 = min 9999 (gN (h 82) 10 + pyV fl (h 82) (gN (h 82) 8) (szN (gN (h 82) 8)) (h 82 9) (h 82 10).toInt) := by unfold clN; omega
    show avA _ 251 0 [.ref 81, mvU, mvU] [] _ _
    refine a_aload_0 rfl rfl ?_
    refine a_virtI rfl rfl (C1) (Nat.le_of_ble_eq_true rfl) ⟨rfl, rfl, rfl, rfl⟩ rfl rfl rfl (Nat.le_of_ble_eq_true rfl) rfl rfl ?_
    refine a_istore_1 rfl rfl rfl ?_
    refine a_aload_0 rfl rfl ?_
    refine a_getr rfl rfl rfl (fun _ _ _ => rfl) rfl ?_
    refine a_bipush (v := (nI 9)) rfl rfl rfl ?_
    refine a_iald rfl rfl (Or.inl rfl) rfl (by omega) (by decide) ?_
    refine a_as (y := h 82 9) (show h1 82 9 = h 82 9 by rw [q82]) ?_
    refine a_iconst (v := (-1)) rfl rfl rfl ?_
    refine a_cmp_eq rfl rfl rfl (fun c_13 => by first | exact absurd c_13 q | exact absurd q c_13) (fun _ => ?_)
    refine a_aload_0 rfl rfl ?_
    refine a_getr rfl rfl rfl (fun _ _ _ => rfl) rfl ?_
    refine a_bipush (v := (nI 10)) rfl rfl rfl ?_
    refine a_aload_0 rfl rfl ?_
    refine a_getr rfl rfl rfl (fun _ _ _ => rfl) rfl ?_
    refine a_bipush (v := (nI 10)) rfl rfl rfl ?_
    refine a_iald rfl rfl (Or.inl rfl) rfl (by omega) (by decide) ?_
    refine a_as (y := nI (gN (h 82) 10)) (show h1 82 10 = _ by rw [q82]; exact e10) ?_
    refine a_iload_1 rfl rfl ?_
    refine a_iaddN rfl rfl ?_
    refine a_as (y := iI ((gN (h 82) 10 : Int) + (pyV fl (h 82) (gN (h 82) 8) (szN (gN (h 82) 8)) (h 82 9) (h 82 10).toInt : Nat))) (by rw [← iI_nat]; congr 1) ?_
    refine a_i2lZ rfl rfl (by omega) ?_
    refine a_iconst (v := (nI 0)) rfl rfl rfl ?_
    refine a_sipush (v := (nI 9999)) rfl rfl rfl ?_
    refine a_statI rfl rfl (r_cut _ 9999 (by omega) (by omega)) (Nat.le_of_ble_eq_true rfl) ⟨rfl, rfl, rfl⟩ rfl rfl rfl (Nat.le_of_ble_eq_true rfl) rfl ?_
    refine a_as (y := nI (min 9999 (gN (h 82) 10 + pyV fl (h 82) (gN (h 82) 8) (szN (gN (h 82) 8)) (h 82 9) (h 82 10).toInt))) (congrArg nI ec) ?_
    refine a_iast rfl rfl rfl rfl (by omega) (by decide) ?_
    refine a_iconst (v := (nI 0)) rfl rfl rfl ?_
    refine a_istore_2 rfl rfl rfl ?_
    refine av_h ?_ A2
    show va_up h1 82 (va_up (h1 82) 10 _) = _
    rw [q82]
end RP
