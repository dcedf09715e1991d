/-! SEATS: the reference, row by row -/
abbrev rR (a b : Nat) (F : Nat → Nat × Nat) (n : Nat) (h : Nat → Nat → Int32) : Prop := ∀ m, m < n → h a m = iI (((F m).1 : Int) - 1) ∧ h b m = nI (F m).2
/-- a step of a row's sum -/
def aT (b m : Nat) (F : Nat → Nat × Nat) (k : Nat) : Nat × Nat := wP (fun i => if m &&& i = 0 then wH b (F i) else (0, 0)) k
theorem s_pc : ∀ m, m < 64 → pcF 31 m ≤ 6 := by decide +kernel
theorem s_sh : ∀ m, m < 64 → nI m &&& nI m <<< (nI 1 &&& 31) = nI (m &&& (2 * m)) := by decide +kernel
theorem s_le (m k : Nat) (hm : m < 64) : m &&& k < 64 := Nat.lt_of_le_of_lt Nat.and_le_left hm
theorem s_row (p : Nat → Bool) (r : Nat) (hr : r < 5) : bsI 30 p >>> (nI (6 * r) &&& 31) &&& nI 63 = bsI 6 (fun j => p (6 * r + j)) := by
  refine bs_of (by omega) (fun j hj => ?_) (fun j hj => ?_)
  · have t : ∀ j, j < 6 → tb (nI 63) j = true := by decide +kernel
    rw [tb_and, tb_shr _ (by omega), tb_bs (by omega), t j hj, if_pos (by omega), Bool.and_true]
    have a : ¬ 32 ≤ j := by omega
    have b : 6 * r + j < 30 := by omega
    simp [a, b]
  · rw [tb_and]
    have : tb (nI 63) j = false := by
      by_cases c : j < 32
      · have t : ∀ j, j < 32 → 6 ≤ j → tb (nI 63) j = false := by decide +kernel
        exact t j c hj
      · exact tb_out _ (by omega)
    rw [this, Bool.and_false]
theorem s_in (q : Nat → Bool) (m : Nat) (hm : m < 64) : nI m &&& (bsI 6 q ^^^ (-1)) = 0 ↔ ∀ j, j < 6 → (m.testBit j && !q j) = false := by
  have e : nI m = bsI 6 (fun j => m.testBit j) := bs_of (by omega) (fun j hj => by rw [tb_nI, decide_eq_true (show j < 32 by omega), Bool.true_and]) (fun j hj => by
    rw [tb_nI, Nat.testBit_lt_two_pow (Nat.lt_of_lt_of_le hm (Nat.pow_le_pow_right (n := 2) (by omega) hj)), Bool.and_false])
  rw [e, bs_diff (by omega), bs_eq0 (by omega)]
section RS
variable {L t : Nat} {lt rt rp : Option Nat} {sw : Bool} {gl : Nat → Nat → Int64}
theorem l_addA (F : Nat → Nat × Nat) (fz : ∀ k, k < 64 → wz (F k)) (f1 : ∀ k, k < 64 → (F k).1 ≤ 31) (f2 : ∀ k, k < 64 → (F k).2 ≤ 16777216) (x : Int32) (b m : Nat) (hb : b ≤ 6) (B : ∀ σ : mvSt, avE 0 293 [.int (nI m)] σ (some (.int (nI b)), σ)) (hm : m < 64) {k : Nat} {h : Nat → Nat → Int32} {y : Value} (hk : k < 64) (W : rR 95 97 F 64 h) (w1 : h 94 m = iI (((aT b m F k).1 : Int) - 1)) (w2 : h 96 m = nI (aT b m F k).2) (q1 : (aT b m F k).1 ≤ 37) (q2 : (aT b m F k).2 ≤ 1073741824) (d1 : m &&& k = 0) (d2 : (F k).1 ≠ 0) (g : (aT b m F k).1 < (F k).1 + b) : ∃ h' y', mvIsL y' = false ∧ CF [94, 96] h h' ∧ (∀ i, i ≠ m → h' 94 i = h 94 i ∧ h' 96 i = h 96 i) ∧ h' 94 m = iI (((aT b m F (k + 1)).1 : Int) - 1) ∧ h' 96 m = nI (aT b m F (k + 1)).2 ∧ ∀ r, avA 1 308 43 [.ref 81, .int x, .int (nI m), .int (nI (k + 1)), y'] [] (sX L t lt rt rp sw h' gl) r → avA 1 308 43 [.ref 81, .int x, .int (nI m), .int (nI k), y] [] (sX L t lt rt rp sw h gl) r := by
  have lk := s_le m k hm
  obtain ⟨e1, e2⟩ := W k hk
  have b1 := f1 k hk
  have b2 := f2 k hk
  have s : aT b m F (k + 1) = wA (aT b m F k) ((F k).1 + b, (F k).2) := by
    unfold aT
    rw [wP, if_pos d1, wH, if_neg d2]
  have e1' : h 95 k = nI ((F k).1 - 1) := by rw [e1, ← iI_nat]; congr 1; omega
  have e3 : iI (((F k).1 + b : Nat) - 1 : Int) = nI ((F k).1 - 1 + b) := by rw [← iI_nat]; congr 1; omega
  have s1 : aT b m F (k + 1) = ((F k).1 + b, (F k).2) := by rw [s, wA, if_pos g]
  refine ⟨mvPut (mvPut (mvPut h 96 m (nI 0)) 94 m (nI ((F k).1 - 1 + b))) 96 m (nI (0 + (F k).2)), .int (nI ((F k).1 - 1 + b)), rfl, CF_put (CF_put (CF_put CF_refl rfl) rfl) rfl, fun i hi => ?_, ?_, ?_, fun r Z => ?_⟩
  · rw [put_at, put_at, put_at, put_at, put_at, put_at]
    simp [hi]
  · rw [s1, put_at, put_at, e3]; simp
  · rw [s1, put_at]; simp
  refine a_iload_3 rfl rfl ?_
  refine a_bipush (v := (nI 64)) rfl rfl rfl ?_
  refine a_cmpN_ge rfl rfl rfl (by omega) (by omega) (fun c_46 => False.elim (by omega)) (fun _ => ?_)
  refine a_iload_2 rfl rfl ?_
  refine a_iload_3 rfl rfl ?_
  refine a_iand rfl rfl ?_
  refine a_as (y := nI (m &&& k)) (nI_and m k) ?_
  refine a_ifN_ne rfl rfl rfl (by omega) (fun c_52 => False.elim (by omega)) (fun _ => ?_)
  refine a_aload_0 rfl rfl ?_
  refine a_getr rfl rfl rfl (fun _ _ _ => rfl) rfl ?_
  refine a_iload_3 rfl rfl ?_
  refine a_iald rfl rfl (Or.inl rfl) rfl (by omega) (by decide) ?_
  refine a_as (y := iI (((F k).1 : Int) - 1)) e1 ?_
  refine a_iconst (v := iI (-1)) rfl rfl rfl ?_
  refine a_cmpI_ne rfl rfl rfl (iI_toInt (by omega) (by omega)) (iI_toInt (by omega) (by omega)) (fun _ => ?_) (fun c_62 => False.elim (by omega))
  refine a_aload_0 rfl rfl ?_
  refine a_getr rfl rfl rfl (fun _ _ _ => rfl) rfl ?_
  refine a_iload_3 rfl rfl ?_
  refine a_iald rfl rfl (Or.inl rfl) rfl (by omega) (by decide) ?_
  refine a_as (y := nI ((F k).1 - 1)) e1' ?_
  refine a_iload_2 rfl rfl ?_
  refine a_statI rfl rfl (B _) (Nat.le_of_ble_eq_true rfl) ⟨rfl, rfl, rfl⟩ rfl rfl rfl (Nat.le_of_ble_eq_true rfl) rfl ?_
  refine a_iaddN rfl rfl ?_
  refine a_istore_4 rfl rfl rfl ?_
  refine a_iload_4 rfl rfl ?_
  refine a_aload_0 rfl rfl ?_
  refine a_getr rfl rfl rfl (fun _ _ _ => rfl) rfl ?_
  refine a_iload_2 rfl rfl ?_
  refine a_iald rfl rfl (Or.inl rfl) rfl (by omega) (by decide) ?_
  refine a_as (y := iI (((aT b m F k).1 : Int) - 1)) w1 ?_
  refine a_cmpI_le rfl rfl rfl (nI_toInt (by omega)) (iI_toInt (by omega) (by omega)) (fun c_89 => False.elim (by omega)) (fun _ => ?_)
  refine a_aload_0 rfl rfl ?_
  refine a_getr rfl rfl rfl (fun _ _ _ => rfl) rfl ?_
  refine a_iload_2 rfl rfl ?_
  refine a_iconst (v := (nI 0)) rfl rfl rfl ?_
  refine a_iast rfl rfl rfl rfl (by omega) (by decide) ?_
  refine a_aload_0 rfl rfl ?_
  refine a_getr rfl rfl rfl (fun _ _ _ => rfl) rfl ?_
  refine a_iload_2 rfl rfl ?_
  refine a_iload_4 rfl rfl ?_
  refine a_aload_0 rfl rfl ?_
  refine a_getr rfl rfl rfl (fun _ _ _ => rfl) rfl ?_
  refine a_iload_2 rfl rfl ?_
  refine a_iald rfl rfl (Or.inl rfl) rfl (by omega) (by decide) ?_
  refine a_as (y := iI (((aT b m F k).1 : Int) - 1)) w1 ?_
  refine a_cmpI_le rfl rfl rfl (nI_toInt (by omega)) (iI_toInt (by omega) (by omega)) (fun c_112 => False.elim (by omega)) (fun _ => ?_)
  refine a_iload_4 rfl rfl ?_
  refine a_goto rfl rfl ?_
  refine a_iast rfl rfl rfl rfl (by omega) (by decide) ?_
  refine a_aload_0 rfl rfl ?_
  refine a_getr rfl rfl rfl (fun _ _ _ => rfl) rfl ?_
  refine a_iload_2 rfl rfl ?_
  refine a_dup2 rfl rfl rfl ?_
  refine a_iald rfl rfl (Or.inl rfl) rfl (by omega) (by decide) ?_
  refine a_as (y := nI (0)) (by rw [put_at, put_at]; simp) ?_
  refine a_iload_4 rfl rfl ?_
  refine a_aload_0 rfl rfl ?_
  refine a_getr rfl rfl rfl (fun _ _ _ => rfl) rfl ?_
  refine a_iload_2 rfl rfl ?_
  refine a_iald rfl rfl (Or.inl rfl) rfl (by omega) (by decide) ?_
  refine a_as (y := nI (((F k).1 - 1 + b))) (by rw [put_at]; simp) ?_
  refine a_cmpN_ne rfl rfl rfl (by omega) (by omega) (fun c_142 => False.elim (by omega)) (fun _ => ?_)
  refine a_aload_0 rfl rfl ?_
  refine a_getr rfl rfl rfl (fun _ _ _ => rfl) rfl ?_
  refine a_iload_3 rfl rfl ?_
  refine a_iald rfl rfl (Or.inl rfl) rfl (by omega) (by decide) ?_
  refine a_as (y := nI ((F k).2)) e2 ?_
  refine a_goto rfl rfl ?_
  refine a_iaddN rfl rfl ?_
  refine a_iast rfl rfl rfl rfl (by omega) (by decide) ?_
  refine a_iinc_3 rfl rfl (nI_inc _ _) rfl ?_
  refine a_goto rfl rfl ?_
  exact Z
theorem l_addB (F : Nat → Nat × Nat) (fz : ∀ k, k < 64 → wz (F k)) (f1 : ∀ k, k < 64 → (F k).1 ≤ 31) (f2 : ∀ k, k < 64 → (F k).2 ≤ 16777216) (x : Int32) (b m : Nat) (hb : b ≤ 6) (B : ∀ σ : mvSt, avE 0 293 [.int (nI m)] σ (some (.int (nI b)), σ)) (hm : m < 64) {k : Nat} {h : Nat → Nat → Int32} {y : Value} (hk : k < 64) (W : rR 95 97 F 64 h) (w1 : h 94 m = iI (((aT b m F k).1 : Int) - 1)) (w2 : h 96 m = nI (aT b m F k).2) (q1 : (aT b m F k).1 ≤ 37) (q2 : (aT b m F k).2 ≤ 1073741824) (d1 : m &&& k = 0) (d2 : (F k).1 ≠ 0) (g : (aT b m F k).1 = (F k).1 + b) : ∃ h' y', mvIsL y' = false ∧ CF [94, 96] h h' ∧ (∀ i, i ≠ m → h' 94 i = h 94 i ∧ h' 96 i = h 96 i) ∧ h' 94 m = iI (((aT b m F (k + 1)).1 : Int) - 1) ∧ h' 96 m = nI (aT b m F (k + 1)).2 ∧ ∀ r, avA 1 308 43 [.ref 81, .int x, .int (nI m), .int (nI (k + 1)), y'] [] (sX L t lt rt rp sw h' gl) r → avA 1 308 43 [.ref 81, .int x, .int (nI m), .int (nI k), y] [] (sX L t lt rt rp sw h gl) r := by
  have lk := s_le m k hm
  obtain ⟨e1, e2⟩ := W k hk
  have b1 := f1 k hk
  have b2 := f2 k hk
  have s : aT b m F (k + 1) = wA (aT b m F k) ((F k).1 + b, (F k).2) := by
    unfold aT
    rw [wP, if_pos d1, wH, if_neg d2]
  have e1' : h 95 k = nI ((F k).1 - 1) := by rw [e1, ← iI_nat]; congr 1; omega
  have e3 : iI (((F k).1 + b : Nat) - 1 : Int) = nI ((F k).1 - 1 + b) := by rw [← iI_nat]; congr 1; omega
  have s1 : aT b m F (k + 1) = ((aT b m F k).1, (aT b m F k).2 + (F k).2) := by rw [s, wA, if_neg (show ¬ (aT b m F k).1 < (F k).1 + b by omega), if_neg (show ¬ (F k).1 + b < (aT b m F k).1 by omega)]
  refine ⟨mvPut (mvPut h 94 m (iI (((aT b m F k).1 : Int) - 1))) 96 m (nI ((aT b m F k).2 + (F k).2)), .int (nI ((F k).1 - 1 + b)), rfl, CF_put (CF_put CF_refl rfl) rfl, fun i hi => ?_, ?_, ?_, fun r Z => ?_⟩
  · rw [put_at, put_at, put_at, put_at]
    simp [hi]
  · rw [s1, put_at, put_at]; simp
  · rw [s1, put_at]; simp
  refine a_iload_3 rfl rfl ?_
  refine a_bipush (v := (nI 64)) rfl rfl rfl ?_
  refine a_cmpN_ge rfl rfl rfl (by omega) (by omega) (fun c_46 => False.elim (by omega)) (fun _ => ?_)
  refine a_iload_2 rfl rfl ?_
  refine a_iload_3 rfl rfl ?_
  refine a_iand rfl rfl ?_
  refine a_as (y := nI (m &&& k)) (nI_and m k) ?_
  refine a_ifN_ne rfl rfl rfl (by omega) (fun c_52 => False.elim (by omega)) (fun _ => ?_)
  refine a_aload_0 rfl rfl ?_
  refine a_getr rfl rfl rfl (fun _ _ _ => rfl) rfl ?_
  refine a_iload_3 rfl rfl ?_
  refine a_iald rfl rfl (Or.inl rfl) rfl (by omega) (by decide) ?_
  refine a_as (y := iI (((F k).1 : Int) - 1)) e1 ?_
  refine a_iconst (v := iI (-1)) rfl rfl rfl ?_
  refine a_cmpI_ne rfl rfl rfl (iI_toInt (by omega) (by omega)) (iI_toInt (by omega) (by omega)) (fun _ => ?_) (fun c_62 => False.elim (by omega))
  refine a_aload_0 rfl rfl ?_
  refine a_getr rfl rfl rfl (fun _ _ _ => rfl) rfl ?_
  refine a_iload_3 rfl rfl ?_
  refine a_iald rfl rfl (Or.inl rfl) rfl (by omega) (by decide) ?_
  refine a_as (y := nI ((F k).1 - 1)) e1' ?_
  refine a_iload_2 rfl rfl ?_
  refine a_statI rfl rfl (B _) (Nat.le_of_ble_eq_true rfl) ⟨rfl, rfl, rfl⟩ rfl rfl rfl (Nat.le_of_ble_eq_true rfl) rfl ?_
  refine a_iaddN rfl rfl ?_
  refine a_istore_4 rfl rfl rfl ?_
  refine a_iload_4 rfl rfl ?_
  refine a_aload_0 rfl rfl ?_
  refine a_getr rfl rfl rfl (fun _ _ _ => rfl) rfl ?_
  refine a_iload_2 rfl rfl ?_
  refine a_iald rfl rfl (Or.inl rfl) rfl (by omega) (by decide) ?_
  refine a_as (y := iI (((aT b m F k).1 : Int) - 1)) w1 ?_
  refine a_cmpI_le rfl rfl rfl (nI_toInt (by omega)) (iI_toInt (by omega) (by omega)) (fun _ => ?_) (fun c_89 => False.elim (by omega))
  refine a_aload_0 rfl rfl ?_
  refine a_getr rfl rfl rfl (fun _ _ _ => rfl) rfl ?_
  refine a_iload_2 rfl rfl ?_
  refine a_iload_4 rfl rfl ?_
  refine a_aload_0 rfl rfl ?_
  refine a_getr rfl rfl rfl (fun _ _ _ => rfl) rfl ?_
  refine a_iload_2 rfl rfl ?_
  refine a_iald rfl rfl (Or.inl rfl) rfl (by omega) (by decide) ?_
  refine a_as (y := iI (((aT b m F k).1 : Int) - 1)) w1 ?_
  refine a_cmpI_le rfl rfl rfl (nI_toInt (by omega)) (iI_toInt (by omega) (by omega)) (fun _ => ?_) (fun c_112 => False.elim (by omega))
  refine a_aload_0 rfl rfl ?_
  refine a_getr rfl rfl rfl (fun _ _ _ => rfl) rfl ?_
  refine a_iload_2 rfl rfl ?_
  refine a_iald rfl rfl (Or.inl rfl) rfl (by omega) (by decide) ?_
  refine a_as (y := iI (((aT b m F k).1 : Int) - 1)) w1 ?_
  refine a_iast rfl rfl rfl rfl (by omega) (by decide) ?_
  refine a_aload_0 rfl rfl ?_
  refine a_getr rfl rfl rfl (fun _ _ _ => rfl) rfl ?_
  refine a_iload_2 rfl rfl ?_
  refine a_dup2 rfl rfl rfl ?_
  refine a_iald rfl rfl (Or.inl rfl) rfl (by omega) (by decide) ?_
  refine a_as (y := nI ((aT b m F k).2)) w2 ?_
  refine a_iload_4 rfl rfl ?_
  refine a_aload_0 rfl rfl ?_
  refine a_getr rfl rfl rfl (fun _ _ _ => rfl) rfl ?_
  refine a_iload_2 rfl rfl ?_
  refine a_iald rfl rfl (Or.inl rfl) rfl (by omega) (by decide) ?_
  refine a_as (y := iI (((aT b m F k).1 : Int) - 1)) (by rw [put_at]; simp) ?_
  refine a_cmpI_ne rfl rfl rfl (nI_toInt (by omega)) (iI_toInt (by omega) (by omega)) (fun c_142 => False.elim (by omega)) (fun _ => ?_)
  refine a_aload_0 rfl rfl ?_
  refine a_getr rfl rfl rfl (fun _ _ _ => rfl) rfl ?_
  refine a_iload_3 rfl rfl ?_
  refine a_iald rfl rfl (Or.inl rfl) rfl (by omega) (by decide) ?_
  refine a_as (y := nI ((F k).2)) e2 ?_
  refine a_goto rfl rfl ?_
  refine a_iaddN rfl rfl ?_
  refine a_iast rfl rfl rfl rfl (by omega) (by decide) ?_
  refine a_iinc_3 rfl rfl (nI_inc _ _) rfl ?_
  refine a_goto rfl rfl ?_
  exact Z
theorem l_addC (F : Nat → Nat × Nat) (fz : ∀ k, k < 64 → wz (F k)) (f1 : ∀ k, k < 64 → (F k).1 ≤ 31) (f2 : ∀ k, k < 64 → (F k).2 ≤ 16777216) (x : Int32) (b m : Nat) (hb : b ≤ 6) (B : ∀ σ : mvSt, avE 0 293 [.int (nI m)] σ (some (.int (nI b)), σ)) (hm : m < 64) {k : Nat} {h : Nat → Nat → Int32} {y : Value} (hk : k < 64) (W : rR 95 97 F 64 h) (w1 : h 94 m = iI (((aT b m F k).1 : Int) - 1)) (w2 : h 96 m = nI (aT b m F k).2) (q1 : (aT b m F k).1 ≤ 37) (q2 : (aT b m F k).2 ≤ 1073741824) (d1 : m &&& k = 0) (d2 : (F k).1 ≠ 0) (g : (F k).1 + b < (aT b m F k).1) : ∃ h' y', mvIsL y' = false ∧ CF [94, 96] h h' ∧ (∀ i, i ≠ m → h' 94 i = h 94 i ∧ h' 96 i = h 96 i) ∧ h' 94 m = iI (((aT b m F (k + 1)).1 : Int) - 1) ∧ h' 96 m = nI (aT b m F (k + 1)).2 ∧ ∀ r, avA 1 308 43 [.ref 81, .int x, .int (nI m), .int (nI (k + 1)), y'] [] (sX L t lt rt rp sw h' gl) r → avA 1 308 43 [.ref 81, .int x, .int (nI m), .int (nI k), y] [] (sX L t lt rt rp sw h gl) r := by
  have lk := s_le m k hm
  obtain ⟨e1, e2⟩ := W k hk
  have b1 := f1 k hk
  have b2 := f2 k hk
  have s : aT b m F (k + 1) = wA (aT b m F k) ((F k).1 + b, (F k).2) := by
    unfold aT
    rw [wP, if_pos d1, wH, if_neg d2]
  have e1' : h 95 k = nI ((F k).1 - 1) := by rw [e1, ← iI_nat]; congr 1; omega
  have e3 : iI (((F k).1 + b : Nat) - 1 : Int) = nI ((F k).1 - 1 + b) := by rw [← iI_nat]; congr 1; omega
  have s1 : aT b m F (k + 1) = aT b m F k := by rw [s, wA, if_neg (show ¬ (aT b m F k).1 < (F k).1 + b by omega), if_pos (show (F k).1 + b < (aT b m F k).1 by omega)]
  refine ⟨mvPut (mvPut h 94 m (iI (((aT b m F k).1 : Int) - 1))) 96 m (nI ((aT b m F k).2 + 0)), .int (nI ((F k).1 - 1 + b)), rfl, CF_put (CF_put CF_refl rfl) rfl, fun i hi => ?_, ?_, ?_, fun r Z => ?_⟩
  · rw [put_at, put_at, put_at, put_at]
    simp [hi]
  · rw [s1, put_at, put_at]; simp
  · rw [s1, put_at]; simp
  refine a_iload_3 rfl rfl ?_
  refine a_bipush (v := (nI 64)) rfl rfl rfl ?_
  refine a_cmpN_ge rfl rfl rfl (by omega) (by omega) (fun c_46 => False.elim (by omega)) (fun _ => ?_)
  refine a_iload_2 rfl rfl ?_
  refine a_iload_3 rfl rfl ?_
  refine a_iand rfl rfl ?_
  refine a_as (y := nI (m &&& k)) (nI_and m k) ?_
  refine a_ifN_ne rfl rfl rfl (by omega) (fun c_52 => False.elim (by omega)) (fun _ => ?_)
  refine a_aload_0 rfl rfl ?_
  refine a_getr rfl rfl rfl (fun _ _ _ => rfl) rfl ?_
  refine a_iload_3 rfl rfl ?_
  refine a_iald rfl rfl (Or.inl rfl) rfl (by omega) (by decide) ?_
  refine a_as (y := iI (((F k).1 : Int) - 1)) e1 ?_
  refine a_iconst (v := iI (-1)) rfl rfl rfl ?_
  refine a_cmpI_ne rfl rfl rfl (iI_toInt (by omega) (by omega)) (iI_toInt (by omega) (by omega)) (fun _ => ?_) (fun c_62 => False.elim (by omega))
  refine a_aload_0 rfl rfl ?_
  refine a_getr rfl rfl rfl (fun _ _ _ => rfl) rfl ?_
  refine a_iload_3 rfl rfl ?_
  refine a_iald rfl rfl (Or.inl rfl) rfl (by omega) (by decide) ?_
  refine a_as (y := nI ((F k).1 - 1)) e1' ?_
  refine a_iload_2 rfl rfl ?_
  refine a_statI rfl rfl (B _) (Nat.le_of_ble_eq_true rfl) ⟨rfl, rfl, rfl⟩ rfl rfl rfl (Nat.le_of_ble_eq_true rfl) rfl ?_
  refine a_iaddN rfl rfl ?_
  refine a_istore_4 rfl rfl rfl ?_
  refine a_iload_4 rfl rfl ?_
  refine a_aload_0 rfl rfl ?_
  refine a_getr rfl rfl rfl (fun _ _ _ => rfl) rfl ?_
  refine a_iload_2 rfl rfl ?_
  refine a_iald rfl rfl (Or.inl rfl) rfl (by omega) (by decide) ?_
  refine a_as (y := iI (((aT b m F k).1 : Int) - 1)) w1 ?_
  refine a_cmpI_le rfl rfl rfl (nI_toInt (by omega)) (iI_toInt (by omega) (by omega)) (fun _ => ?_) (fun c_89 => False.elim (by omega))
  refine a_aload_0 rfl rfl ?_
  refine a_getr rfl rfl rfl (fun _ _ _ => rfl) rfl ?_
  refine a_iload_2 rfl rfl ?_
  refine a_iload_4 rfl rfl ?_
  refine a_aload_0 rfl rfl ?_
  refine a_getr rfl rfl rfl (fun _ _ _ => rfl) rfl ?_
  refine a_iload_2 rfl rfl ?_
  refine a_iald rfl rfl (Or.inl rfl) rfl (by omega) (by decide) ?_
  refine a_as (y := iI (((aT b m F k).1 : Int) - 1)) w1 ?_
  refine a_cmpI_le rfl rfl rfl (nI_toInt (by omega)) (iI_toInt (by omega) (by omega)) (fun _ => ?_) (fun c_112 => False.elim (by omega))
  refine a_aload_0 rfl rfl ?_
  refine a_getr rfl rfl rfl (fun _ _ _ => rfl) rfl ?_
  refine a_iload_2 rfl rfl ?_
  refine a_iald rfl rfl (Or.inl rfl) rfl (by omega) (by decide) ?_
  refine a_as (y := iI (((aT b m F k).1 : Int) - 1)) w1 ?_
  refine a_iast rfl rfl rfl rfl (by omega) (by decide) ?_
  refine a_aload_0 rfl rfl ?_
  refine a_getr rfl rfl rfl (fun _ _ _ => rfl) rfl ?_
  refine a_iload_2 rfl rfl ?_
  refine a_dup2 rfl rfl rfl ?_
  refine a_iald rfl rfl (Or.inl rfl) rfl (by omega) (by decide) ?_
  refine a_as (y := nI ((aT b m F k).2)) w2 ?_
  refine a_iload_4 rfl rfl ?_
  refine a_aload_0 rfl rfl ?_
  refine a_getr rfl rfl rfl (fun _ _ _ => rfl) rfl ?_
  refine a_iload_2 rfl rfl ?_
  refine a_iald rfl rfl (Or.inl rfl) rfl (by omega) (by decide) ?_
  refine a_as (y := iI (((aT b m F k).1 : Int) - 1)) (by rw [put_at]; simp) ?_
  refine a_cmpI_ne rfl rfl rfl (nI_toInt (by omega)) (iI_toInt (by omega) (by omega)) (fun _ => ?_) (fun c_142 => False.elim (by omega))
  refine a_iconst (v := (nI 0)) rfl rfl rfl ?_
  refine a_iaddN rfl rfl ?_
  refine a_iast rfl rfl rfl rfl (by omega) (by decide) ?_
  refine a_iinc_3 rfl rfl (nI_inc _ _) rfl ?_
  refine a_goto rfl rfl ?_
  exact Z
theorem l_add (F : Nat → Nat × Nat) (fz : ∀ k, k < 64 → wz (F k)) (f1 : ∀ k, k < 64 → (F k).1 ≤ 31) (f2 : ∀ k, k < 64 → (F k).2 ≤ 16777216) (x : Int32) (b m : Nat) (hb : b ≤ 6) (B : ∀ σ : mvSt, avE 0 293 [.int (nI m)] σ (some (.int (nI b)), σ)) (hm : m < 64) (n : Nat) : ∀ (k : Nat) (h : Nat → Nat → Int32) (y : Value), mvIsL y = false → k + n = 64 → rR 95 97 F 64 h → h 94 m = iI (((aT b m F k).1 : Int) - 1) → h 96 m = nI (aT b m F k).2 → ∃ h' y', mvIsL y' = false ∧ CF [94, 96] h h' ∧ (∀ i, i ≠ m → h' 94 i = h 94 i ∧ h' 96 i = h 96 i) ∧ h' 94 m = iI (((aT b m F (64)).1 : Int) - 1) ∧ h' 96 m = nI (aT b m F (64)).2 ∧ ∀ r, avA 1 308 163 [.ref 81, .int x, .int (nI m), .int (nI (64)), y'] [] (sX L t lt rt rp sw h' gl) r → avA 1 308 43 [.ref 81, .int x, .int (nI m), .int (nI k), y] [] (sX L t lt rt rp sw h gl) r := by
  induction n with
  | zero =>
    intro k h y hy hk W w1 w2
    have e : k = 64 := by omega
    subst e
    refine ⟨h, y, hy, CF_refl, fun _ _ => ⟨rfl, rfl⟩, w1, w2, fun r Z => ?_⟩
    refine a_iload_3 rfl rfl ?_
    refine a_bipush (v := nI 64) rfl rfl rfl ?_
    exact a_cmpN_ge rfl rfl rfl (by omega) (by omega) (fun _ => Z) (fun a => absurd a (by omega))
  | succ n ih =>
    intro k h y hy hk W w1 w2
    have hk : k < 64 := by omega
    have lk := s_le m k hm
    obtain ⟨e1, e2⟩ := W k hk
    have zk := fz k hk
    unfold wz at zk
    have q1 : (aT b m F k).1 ≤ 37 := wP_1 (fun i hi => by
      split
      · have := f1 i (by omega)
        unfold wH
        split
        · omega
        · show (F i).1 + _ ≤ 37; omega
      · exact Nat.zero_le _)
    have q2 : (aT b m F k).2 ≤ 1073741824 := Nat.le_trans (wP_2 (b := 16777216) (fun i hi => by
      split
      · rw [wH_2]; exact f2 i (by omega)
      · exact Nat.zero_le _)) (by omega)
    have ST : ∃ h1 y1, mvIsL y1 = false ∧ CF [94, 96] h h1 ∧ (∀ i, i ≠ m → h1 94 i = h 94 i ∧ h1 96 i = h 96 i) ∧ h1 94 m = iI (((aT b m F (k + 1)).1 : Int) - 1) ∧ h1 96 m = nI (aT b m F (k + 1)).2 ∧ ∀ r, avA 1 308 43 [.ref 81, .int x, .int (nI m), .int (nI (k + 1)), y1] [] (sX L t lt rt rp sw h1 gl) r → avA 1 308 43 [.ref 81, .int x, .int (nI m), .int (nI k), y] [] (sX L t lt rt rp sw h gl) r := by
      by_cases d1 : m &&& k = 0
      · by_cases d2 : (F k).1 = 0
        · have f0 : F k = (0, 0) := Prod.ext d2 (by show _ = 0; omega)
          have s : aT b m F (k + 1) = aT b m F k := by
            unfold aT
            rw [wP, f0, wH_z]
            split <;> exact wA_0 _
          refine ⟨h, y, hy, CF_refl, fun _ _ => ⟨rfl, rfl⟩, by rw [s]; exact w1, by rw [s]; exact w2, fun r Z => ?_⟩
          refine a_iload_3 rfl rfl ?_
          refine a_bipush (v := (nI 64)) rfl rfl rfl ?_
          refine a_cmpN_ge rfl rfl rfl (by omega) (by omega) (fun c_46 => False.elim (by omega)) (fun _ => ?_)
          refine a_iload_2 rfl rfl ?_
          refine a_iload_3 rfl rfl ?_
          refine a_iand rfl rfl ?_
          refine a_as (y := nI (m &&& k)) (nI_and m k) ?_
          refine a_ifN_ne rfl rfl rfl (by omega) (fun c_52 => False.elim (by omega)) (fun _ => ?_)
          refine a_aload_0 rfl rfl ?_
          refine a_getr rfl rfl rfl (fun _ _ _ => rfl) rfl ?_
          refine a_iload_3 rfl rfl ?_
          refine a_iald rfl rfl (Or.inl rfl) rfl (by omega) (by decide) ?_
          refine a_as (y := iI (-1)) (by rw [e1, d2]; rfl) ?_
          refine a_iconst (v := iI (-1)) rfl rfl rfl ?_
          refine a_cmpI_ne rfl rfl rfl (iI_toInt (by omega) (by omega)) (iI_toInt (by omega) (by omega)) (fun c_62 => False.elim (by omega)) (fun _ => ?_)
          refine a_goto rfl rfl ?_
          refine a_iinc_3 rfl rfl (nI_inc _ _) rfl ?_
          refine a_goto rfl rfl ?_
          exact Z
        · rcases Nat.lt_trichotomy (aT b m F k).1 ((F k).1 + b) with g | g | g
          · exact l_addA F fz f1 f2 x b m hb B hm hk W w1 w2 q1 q2 d1 d2 g
          · exact l_addB F fz f1 f2 x b m hb B hm hk W w1 w2 q1 q2 d1 d2 g
          · exact l_addC F fz f1 f2 x b m hb B hm hk W w1 w2 q1 q2 d1 d2 g
      · have s : aT b m F (k + 1) = aT b m F k := by
          unfold aT
          rw [wP, if_neg d1, wA_0]
        refine ⟨h, y, hy, CF_refl, fun _ _ => ⟨rfl, rfl⟩, by rw [s]; exact w1, by rw [s]; exact w2, fun r Z => ?_⟩
        refine a_iload_3 rfl rfl ?_
        refine a_bipush (v := (nI 64)) rfl rfl rfl ?_
        refine a_cmpN_ge rfl rfl rfl (by omega) (by omega) (fun c_46 => False.elim (by omega)) (fun _ => ?_)
        refine a_iload_2 rfl rfl ?_
        refine a_iload_3 rfl rfl ?_
        refine a_iand rfl rfl ?_
        refine a_as (y := nI (m &&& k)) (nI_and m k) ?_
        refine a_ifN_ne rfl rfl rfl (by omega) (fun _ => ?_) (fun c_52 => False.elim (by omega))
        refine a_iinc_3 rfl rfl (nI_inc _ _) rfl ?_
        refine a_goto rfl rfl ?_
        exact Z
    obtain ⟨h1, y1, a1, a2, a3, a4, a5, Z1⟩ := ST
    obtain ⟨h', y', g1, g2, g3, g4, g5, Z'⟩ := ih (k + 1) h1 y1 a1 (by omega) (fun i hi => by rw [a2 95 rfl, a2 97 rfl]; exact W i hi) a4 a5
    exact ⟨h', y', g1, CF_trans a2 g2, fun i hi => ⟨(g3 i hi).1.trans (a3 i hi).1, (g3 i hi).2.trans (a3 i hi).2⟩, g4, g5, fun r Z0 => Z1 r (Z' r Z0)⟩
theorem l_rows (p : Nat → Bool) (r : Nat) (hr : r < 5) (n : Nat) : ∀ (m : Nat) (h : Nat → Nat → Int32) (y3 y4 : Value), mvIsL y3 = false → mvIsL y4 = false → m + n = 64 → rR 95 97 (rS p r) 64 h → rR 94 96 (rS p (r + 1)) m h → ∃ h', avA 1 308 2 [.ref 81, .int (bsI 6 (fun j => p (6 * r + j))), .int (nI m), y3, y4] [] (sX L t lt rt rp sw h gl) (none, sX L t lt rt rp sw h' gl) ∧ CF [94, 96] h h' ∧ rR 94 96 (rS p (r + 1)) 64 h' := by
  have fz : ∀ k, k < 64 → wz (rS p r k) := fun k hk => by rw [rS_eq p r k hk]; exact gS_z _ _ _
  have f1 : ∀ k, k < 64 → (rS p r k).1 ≤ 31 := fun k hk => by rw [rS_eq p r k hk]; exact Nat.le_trans (gS_1 _ _ _) (by omega)
  have f2 : ∀ k, k < 64 → (rS p r k).2 ≤ 16777216 := fun k hk => by rw [rS_eq p r k hk]; exact gS_24 _ (by omega) _
  induction n with
  | zero =>
    intro m h y3 y4 hy3 hy4 hm W V
    have e : m = 64 := by omega
    subst e
    refine ⟨h, ?_, CF_refl, V⟩
    refine a_iload_2 rfl rfl ?_
    refine a_bipush (v := (nI 64)) rfl rfl rfl ?_
    refine a_cmpN_ge rfl rfl rfl (by omega) (by omega) (fun _ => ?_) (fun c_5 => absurd c_5 (by decide))
    exact a_vret rfl rfl
  | succ n ih =>
    intro m h y3 y4 hy3 hy4 hm W V
    have hm' : m < 64 := by omega
    have X1 := s_in (fun j => p (6 * r + j)) m hm'
    have X2 := s_sh m hm'
    have lk := s_le m (2 * m) hm'
    let h1 := mvPut (mvPut h 94 m (-1)) 96 m (nI 0)
    have w1 : h1 94 m = iI ((((0, 0) : Nat × Nat).1 : Int) - 1) := by show mvPut (mvPut h 94 m (-1)) 96 m (nI 0) 94 m = _; rw [put_at, put_at]; simp; rfl
    have w2 : h1 96 m = nI ((0, 0) : Nat × Nat).2 := by show mvPut (mvPut h 94 m (-1)) 96 m (nI 0) 96 m = _; rw [put_at]; simp
    have W1 : rR 95 97 (rS p r) 64 h1 := W
    have V1 : ∀ i, i ≠ m → h1 94 i = h 94 i ∧ h1 96 i = h 96 i := fun i hi => by
      show mvPut (mvPut h 94 m (-1)) 96 m (nI 0) 94 i = _ ∧ mvPut (mvPut h 94 m (-1)) 96 m (nI 0) 96 i = _
      rw [put_at, put_at, put_at, put_at]
      simp [hi]
    have c1 : CF [94, 96] h h1 := CF_put (CF_put CF_refl rfl) rfl
    by_cases k : rwOK p r m
    · obtain ⟨h2, y', g1, g2, g3, g4, g5, Z'⟩ := l_add (L := L) (t := t) (lt := lt) (rt := rt) (rp := rp) (sw := sw) (gl := gl) (rS p r) fz f1 f2 (bsI 6 (fun j => p (6 * r + j))) (pcF 31 m) m (s_pc m hm') (fun σ => r_bits m (by omega)) hm' 64 0 h1 y4 hy4 rfl W1 w1 w2
      have e : rS p (r + 1) m = aT (pcF 31 m) m (rS p r) 64 := by rw [rS, if_pos k]; rfl
      obtain ⟨h', Z, c, q⟩ := ih (m + 1) h2 (.int (nI 64)) y' rfl g1 (by omega) (by intro i hi; rw [g2 95 rfl, g2 97 rfl]; exact W1 i hi) (fun i hi => by
        by_cases d : i = m
        · subst d; rw [e]; exact ⟨g4, g5⟩
        · rw [(g3 i d).1, (g3 i d).2, (V1 i d).1, (V1 i d).2]; exact V i (by omega))
      refine ⟨h', ?_, CF_trans c1 (CF_trans g2 c), q⟩
      refine a_iload_2 rfl rfl ?_
      refine a_bipush (v := (nI 64)) rfl rfl rfl ?_
      refine a_cmpN_ge rfl rfl rfl (by omega) (by omega) (fun c_5 => False.elim (by omega)) (fun _ => ?_)
      refine a_aload_0 rfl rfl ?_
      refine a_getr rfl rfl rfl (fun _ _ _ => rfl) rfl ?_
      refine a_iload_2 rfl rfl ?_
      refine a_iconst (v := (-1)) rfl rfl rfl ?_
      refine a_iast rfl rfl rfl rfl (by omega) (by decide) ?_
      refine a_aload_0 rfl rfl ?_
      refine a_getr rfl rfl rfl (fun _ _ _ => rfl) rfl ?_
      refine a_iload_2 rfl rfl ?_
      refine a_iconst (v := (nI 0)) rfl rfl rfl ?_
      refine a_iast rfl rfl rfl rfl (by omega) (by decide) ?_
      refine a_iload_2 rfl rfl ?_
      refine a_iload_1 rfl rfl ?_
      refine a_iconst (v := (-1)) rfl rfl rfl ?_
      refine a_ixor rfl rfl ?_
      refine a_iand rfl rfl ?_
      refine a_if_ne rfl rfl rfl (fun c_27 => by first | exact absurd c_27 (not_not_intro (X1.mpr k.1)) | exact absurd (not_not_intro (X1.mpr k.1)) c_27) (fun _ => ?_)
      refine a_iload_2 rfl rfl ?_
      refine a_iload_2 rfl rfl ?_
      refine a_iconst (v := (nI 1)) rfl rfl rfl ?_
      refine a_ishl rfl rfl ?_
      refine a_iand rfl rfl ?_
      refine a_as (y := nI (m &&& (2 * m))) X2 ?_
      refine a_ifN_eq rfl rfl rfl (by omega) (fun _ => ?_) (fun c_35 => False.elim (by exact c_35 k.2))
      refine a_iconst (v := (nI 0)) rfl rfl rfl ?_
      refine a_istore_3 rfl rfl rfl ?_
      exact Z' _ (a_iinc_2 rfl rfl (nI_inc _ _) rfl (a_goto rfl rfl Z))
    · have e : rS p (r + 1) m = (0, 0) := by rw [rS, if_neg k]
      obtain ⟨h', Z, c, q⟩ := ih (m + 1) h1 y3 y4 hy3 hy4 (by omega) W1 (fun i hi => by
        by_cases d : i = m
        · subst d; rw [e]; exact ⟨w1, w2⟩
        · rw [(V1 i d).1, (V1 i d).2]; exact V i (by omega))
      refine ⟨h', ?_, CF_trans c1 c, q⟩
      refine a_iload_2 rfl rfl ?_
      refine a_bipush (v := (nI 64)) rfl rfl rfl ?_
      refine a_cmpN_ge rfl rfl rfl (by omega) (by omega) (fun c_5 => False.elim (by omega)) (fun _ => ?_)
      refine a_aload_0 rfl rfl ?_
      refine a_getr rfl rfl rfl (fun _ _ _ => rfl) rfl ?_
      refine a_iload_2 rfl rfl ?_
      refine a_iconst (v := (-1)) rfl rfl rfl ?_
      refine a_iast rfl rfl rfl rfl (by omega) (by decide) ?_
      refine a_aload_0 rfl rfl ?_
      refine a_getr rfl rfl rfl (fun _ _ _ => rfl) rfl ?_
      refine a_iload_2 rfl rfl ?_
      refine a_iconst (v := (nI 0)) rfl rfl rfl ?_
      refine a_iast rfl rfl rfl rfl (by omega) (by decide) ?_
      refine a_iload_2 rfl rfl ?_
      refine a_iload_1 rfl rfl ?_
      refine a_iconst (v := (-1)) rfl rfl rfl ?_
      refine a_ixor rfl rfl ?_
      refine a_iand rfl rfl ?_
      refine a_if_ne rfl rfl rfl (fun c_27 => ?_) (fun c_27 => ?_)
      · refine a_iinc_2 rfl rfl (nI_inc _ _) rfl ?_
        refine a_goto rfl rfl ?_
        exact Z
      · refine a_iload_2 rfl rfl ?_
        refine a_iload_2 rfl rfl ?_
        refine a_iconst (v := (nI 1)) rfl rfl rfl ?_
        refine a_ishl rfl rfl ?_
        refine a_iand rfl rfl ?_
        refine a_as (y := nI (m &&& (2 * m))) X2 ?_
        refine a_ifN_eq rfl rfl rfl (by omega) (fun c_35 => False.elim (by exact k ⟨X1.mp (by simpa using c_27), c_35⟩)) (fun _ => ?_)
        refine a_goto rfl rfl ?_
        refine a_iinc_2 rfl rfl (nI_inc _ _) rfl ?_
        refine a_goto rfl rfl ?_
        exact Z
theorem r_addRow (p : Nat → Bool) (r : Nat) (hr : r < 5) {h : Nat → Nat → Int32} (W : rR 95 97 (rS p r) 64 h) : ∃ h', avE 1 308 [.ref 81, .int (bsI 6 (fun j => p (6 * r + j)))] (sX L t lt rt rp sw h gl) (none, sX L t lt rt rp sw h' gl) ∧ CF [94, 96] h h' ∧ rR 94 96 (rS p (r + 1)) 64 h' := by
  obtain ⟨h', Z, c, q⟩ := l_rows (L := L) (t := t) (lt := lt) (rt := rt) (rp := rp) (sw := sw) (gl := gl) p r hr 64 0 h mvU mvU rfl rfl rfl W (fun i hi => absurd hi (by omega))
  refine ⟨h', ?_, c, q⟩
  show avA _ 308 0 [.ref 81, .int (bsI 6 (fun j => p (6 * r + j))), mvU, mvU, mvU] [] _ _
  refine a_iconst (v := (nI 0)) rfl rfl rfl ?_
  refine a_istore_2 rfl rfl rfl ?_
  exact Z
end RS
