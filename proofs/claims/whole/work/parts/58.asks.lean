/-! MORE QUESTIONS: the book, beasts, time, ways, floods -/
def bkV (A : Nat → Int32) (i w : Int32) : Int32 := if i = -1 then nI (gN A 12) else if 0 ≤ i.toInt ∧ i.toInt < gN A 12 then (if w = nI 0 then nI (gN A (1696 + i.toInt.toNat) / 128) else if w = nI 1 then nI (gN A (1696 + i.toInt.toNat) / 16 % 8) else if w = nI 2 then nI (gN A (1696 + i.toInt.toNat) % 16) else -2) else -2
def lgN (A : Nat → Int32) (b : Nat) : Nat → Nat
  | 0 => 0
  | i + 1 => lgN A b i + (if gN A (1696 + i) / 16 % 8 = b then 1 else 0)
theorem lgN_le (A : Nat → Int32) (b n : Nat) : lgN A b n ≤ n := by
  induction n with
  | zero => exact Nat.le_refl _
  | succ n ih => rw [lgN]; split <;> omega
def wlN (md : Nat → Int32) : Nat → Nat
  | 0 => 0
  | b + 1 => if b = 0 then 0 else if (md (wlN md b)).toInt < (md b).toInt then b else wlN md b
theorem wlN_lt (md : Nat → Int32) (b : Nat) (hb : 0 < b) : wlN md b < b := by
  induction b with
  | zero => omega
  | succ b ih =>
    rw [wlN]
    split
    · omega
    · split
      · omega
      · have := ih (by omega); omega
theorem wlN_ext {f g : Nat → Int32} (n : Nat) (e : ∀ b, b < n → f b = g b) : ∀ b, b ≤ n → wlN f b = wlN g b := by
  intro b
  induction b with
  | zero => intro _; rfl
  | succ b ih =>
    intro hb
    rw [wlN, wlN, ih (by omega)]
    split
    · rfl
    · rename_i q
      have := wlN_lt g b (by omega)
      rw [e b (by omega), e _ (by omega)]
def alR (A : Nat → Int32) (b : Nat) : Nat → Bool
  | 0 => true
  | e + 1 => alR A b e && (decide (e = b) || decide (btw (frA A) (A (13 + 5 * b)) (A (13 + 5 * e)) = -1))
theorem alR_F {A : Nat → Int32} {b e n : Nat} (h : alR A b e = false) (hn : e ≤ n) : alR A b n = false := by
  obtain ⟨k, rfl⟩ := Nat.exists_eq_add_of_le hn
  induction k with
  | zero => exact h
  | succ k ih => rw [← Nat.add_assoc, alR, ih (by omega)]; rfl
def otN (A : Nat → Int32) (b : Nat) : Nat → Nat
  | 0 => 0
  | e + 1 => otN A b e + (if e ≠ b ∧ btw (frA A) (A (13 + 5 * b)) (A (13 + 5 * e)) ≠ -1 then 1 else 0)
theorem otN_le (A : Nat → Int32) (b n : Nat) : otN A b n ≤ n := by
  induction n with
  | zero => exact Nat.le_refl _
  | succ n ih => rw [otN]; split <;> omega
theorem otN_0 (A : Nat → Int32) (b n : Nat) : otN A b n = 0 ↔ alR A b n = true := by
  induction n with
  | zero => simp [otN, alR]
  | succ n ih =>
    rw [otN, alR]
    by_cases c : n ≠ b ∧ btw (frA A) (A (13 + 5 * b)) (A (13 + 5 * n)) ≠ -1
    · rw [if_pos c]
      simp [c.1, c.2]
    · rw [if_neg c, Nat.add_zero, ih, Bool.and_eq_true]
      constructor
      · intro q
        refine ⟨q, ?_⟩
        by_cases c1 : n = b
        · simp [c1]
        · have : btw (frA A) (A (13 + 5 * b)) (A (13 + 5 * n)) = -1 := Classical.byContradiction fun z => c ⟨c1, z⟩
          simp [this]
      · intro q; exact q.1
section BK2
variable {L t : Nat} {lt rt rp : Option Nat} {sw : Bool} {h : Nat → Nat → Int32} {gl : Nat → Nat → Int64} {A B : Nat → Int32} {TX : Nat → Txt} {R : Nat}
theorem bk_v (ok : okA A) (i : Nat) (hi : i < 30) : A (1696 + i) = nI (gN A (1696 + i)) ∧ gN A (1696 + i) ≤ 1279999 := ⟨gN_eq ok.1 (by omega) (by rw [bd_book]; decide), gN_le (m := 1279999) ok.1 (by omega) (by rw [bd_book]; decide)⟩
theorem e_kickAt (H : CI A B TX R t lt h) (i : Nat) (hi : i < gN A 12) : avE 0 125 [.ref 14, .int (nI i)] (sX L t lt rt rp sw h gl) (some (.int (nI (gN A (1696 + i)))), sX L t lt rt rp sw h gl) := by
  obtain ⟨bf, bc, b1, b2, b3, b4, b5⟩ := H.2.2.2.1.2.2.1
  obtain ⟨g1, g2⟩ := b5 rfl
  have e := (g2 i (by omega)).trans (bk_v H.1 i (by omega)).1
  show avA _ 125 0 [.ref 14, .int (nI (i))] [] _ _
  refine a_aload_0 rfl rfl ?_
  refine a_getr rfl rfl rfl (fun _ _ _ => rfl) rfl ?_
  refine a_aload_0 rfl rfl ?_
  refine a_geti rfl rfl rfl (fun _ _ _ => rfl) ?_
  refine a_as (y := nI (bf)) b3 ?_
  refine a_iload_1 rfl rfl ?_
  refine a_iaddN rfl rfl ?_
  refine a_bipush (v := (nI 30)) rfl rfl rfl ?_
  refine a_iremN rfl rfl (by omega) (by omega) (by omega) ?_
  refine a_iald rfl rfl (Or.inl rfl) rfl (by omega) (by decide) ?_
  refine a_as (y := _) e ?_
  exact a_iret rfl rfl
theorem r_entry (ok : okA A) (H : RI A B TX h) (i : Nat) (hi : i < 30) (w : Nat) (hw : w < 3) : avE 0 280 [.ref 81, .int (nI i), .int (nI w)] (sX L t lt rt rp sw h gl) (some (.int (nI (if w = 0 then gN A (1696 + i) / 128 else if w = 1 then gN A (1696 + i) / 16 % 8 else gN A (1696 + i) % 16))), sX L t lt rt rp sw h gl) := by
  obtain ⟨e, l⟩ := bk_v ok i hi
  have e' : h 82 (1696 + i) = nI (gN A (1696 + i)) := by rw [H.1]; exact e
  match w, hw with
  | 0, _ =>
    show avA _ 280 0 [.ref 81, .int (nI (i)), .int (nI 0)] [] _ _
    refine a_iload_2 rfl rfl ?_
    refine a_ifN_ne rfl rfl rfl (by omega) (fun c_1 => absurd c_1 (by decide)) (fun _ => ?_)
    refine a_aload_0 rfl rfl ?_
    refine a_getr rfl rfl rfl (fun _ _ _ => rfl) rfl ?_
    refine a_sipush (v := (nI 1696)) rfl rfl rfl ?_
    refine a_iload_1 rfl rfl ?_
    refine a_iaddN rfl rfl ?_
    refine a_iald rfl rfl (Or.inl rfl) rfl (by omega) (by decide) ?_
    refine a_as (y := nI (_)) e' ?_
    refine a_sipush (v := (nI 128)) rfl rfl rfl ?_
    refine a_idivN rfl rfl (by omega) (by omega) (by omega) ?_
    refine a_goto rfl rfl ?_
    exact a_iret rfl rfl
  | 1, _ =>
    show avA _ 280 0 [.ref 81, .int (nI (i)), .int (nI 1)] [] _ _
    refine a_iload_2 rfl rfl ?_
    refine a_ifN_ne rfl rfl rfl (by omega) (fun _ => ?_) (fun c_1 => absurd c_1 (by decide))
    refine a_iload_2 rfl rfl ?_
    refine a_iconst (v := (nI 1)) rfl rfl rfl ?_
    refine a_cmpN_ne rfl rfl rfl (by omega) (by omega) (fun c_23 => absurd c_23 (by decide)) (fun _ => ?_)
    refine a_aload_0 rfl rfl ?_
    refine a_getr rfl rfl rfl (fun _ _ _ => rfl) rfl ?_
    refine a_sipush (v := (nI 1696)) rfl rfl rfl ?_
    refine a_iload_1 rfl rfl ?_
    refine a_iaddN rfl rfl ?_
    refine a_iald rfl rfl (Or.inl rfl) rfl (by omega) (by decide) ?_
    refine a_as (y := nI (_)) e' ?_
    refine a_bipush (v := (nI 16)) rfl rfl rfl ?_
    refine a_idivN rfl rfl (by omega) (by omega) (by omega) ?_
    refine a_bipush (v := (nI 8)) rfl rfl rfl ?_
    refine a_iremN rfl rfl (by omega) (by omega) (by omega) ?_
    refine a_goto rfl rfl ?_
    exact a_iret rfl rfl
  | 2, _ =>
    show avA _ 280 0 [.ref 81, .int (nI (i)), .int (nI 2)] [] _ _
    refine a_iload_2 rfl rfl ?_
    refine a_ifN_ne rfl rfl rfl (by omega) (fun _ => ?_) (fun c_1 => absurd c_1 (by decide))
    refine a_iload_2 rfl rfl ?_
    refine a_iconst (v := (nI 1)) rfl rfl rfl ?_
    refine a_cmpN_ne rfl rfl rfl (by omega) (by omega) (fun _ => ?_) (fun c_23 => absurd c_23 (by decide))
    refine a_aload_0 rfl rfl ?_
    refine a_getr rfl rfl rfl (fun _ _ _ => rfl) rfl ?_
    refine a_sipush (v := (nI 1696)) rfl rfl rfl ?_
    refine a_iload_1 rfl rfl ?_
    refine a_iaddN rfl rfl ?_
    refine a_iald rfl rfl (Or.inl rfl) rfl (by omega) (by decide) ?_
    refine a_as (y := nI (_)) e' ?_
    refine a_bipush (v := (nI 16)) rfl rfl rfl ?_
    refine a_iremN rfl rfl (by omega) (by omega) (by omega) ?_
    exact a_iret rfl rfl
end BK2
section A3
variable {A B : Nat → Int32} {TX : Nat → Txt}
theorem p_book (hA : okA A) (i w : Int32) : ∃ r, opP 0 1 124 [.ref 7, .int i, .int w] 1 279 [.ref 81, .int i, .int w] TX A B r A B := by
  have h12 := gN_le (m := 30) hA.1 (i := 12) (by omega) (by decide)
  have e12 : A 12 = nI (gN A 12) := gN_eq hA.1 (by omega) (by decide)
  have c10 : ∀ (R t : Nat) (lt : Option Nat) (h : Nat → Nat → Int32), CI A B TX R t lt h → h 14 10 = nI (gN A 12) := fun R t lt h H => by
    obtain ⟨bf, bc, b1, b2, b3, b4, b5⟩ := H.2.2.2.1.2.2.1
    rw [(b5 rfl).1]; exact b4
  by_cases h1 : i = -1
  · subst h1
    refine ⟨nI (gN A 12), ?_, ?_, hA, rfl⟩
    · intro L t lt rt rp sw h gl R H hR
      refine ⟨h, lt, R, sw, ?_, CF_refl, H, by omega, by omega⟩
      show avA _ 124 0 [.ref 7, .int (-1), .int (w), mvU, mvU] [] _ _
      refine a_aload_0 rfl rfl ?_
      refine a_getr rfl rfl rfl (fun _ _ _ => rfl) rfl ?_
      refine a_getr rfl rfl rfl (fun _ _ _ => rfl) rfl ?_
      refine a_astore_3 rfl rfl rfl ?_
      refine a_iload_1 rfl rfl ?_
      refine a_iconst (v := (-1)) rfl rfl rfl ?_
      refine a_cmp_ne rfl rfl rfl (fun c_10 => by first | exact absurd c_10 (not_not_intro rfl) | exact absurd (not_not_intro rfl) c_10) (fun _ => ?_)
      refine a_aload_3 rfl rfl ?_
      refine a_geti rfl rfl rfl (fun _ _ _ => rfl) ?_
      refine a_as (y := _) (c10 R t lt h H) ?_
      exact a_iret rfl rfl
    · intro L t lt rt rp sw h gl ok H
      refine ⟨h, gl, ?_, CF_refl, fun _ _ => rfl, H⟩
      show avA _ 279 0 [.ref 81, .int (-1), .int (w)] [] _ _
      refine a_iload_1 rfl rfl ?_
      refine a_iconst (v := (-1)) rfl rfl rfl ?_
      refine a_cmp_ne rfl rfl rfl (fun c_2 => by first | exact absurd c_2 (not_not_intro rfl) | exact absurd (not_not_intro rfl) c_2) (fun _ => ?_)
      refine a_aload_0 rfl rfl ?_
      refine a_getr rfl rfl rfl (fun _ _ _ => rfl) rfl ?_
      refine a_bipush (v := (nI 12)) rfl rfl rfl ?_
      refine a_iald rfl rfl (Or.inl rfl) rfl (by omega) (by decide) ?_
      refine a_as (y := nI (gN A 12)) (by rw [H.1]; exact e12) ?_
      exact a_iret rfl rfl
  · by_cases h2 : 0 ≤ i.toInt ∧ i.toInt < gN A 12
    · obtain ⟨n, hn, rfl, _⟩ := cell_of (m := gN A 12) h2.1 h2.2
      obtain ⟨ev, lv⟩ := bk_v hA n (by omega)
      have hin : (nI n).toInt.toNat = n := by rw [nI_toInt (by omega)]; rfl
      by_cases hw : 0 ≤ w.toInt ∧ w.toInt ≤ 2
      · obtain ⟨q, hq, rfl, _⟩ := cell_of (x := w) (m := 3) hw.1 (by omega)
        refine ⟨nI (if q = 0 then gN A (1696 + n) / 128 else if q = 1 then gN A (1696 + n) / 16 % 8 else gN A (1696 + n) % 16), ?_, ?_, hA, rfl⟩
        · intro L t lt rt rp sw h gl R H hR
          refine ⟨h, lt, R, sw, ?_, CF_refl, H, by omega, by omega⟩
          match q, hq with
          | 0, _ =>
            show avA _ 124 0 [.ref 7, .int (nI (n)), .int (nI 0), mvU, mvU] [] _ _
            refine a_aload_0 rfl rfl ?_
            refine a_getr rfl rfl rfl (fun _ _ _ => rfl) rfl ?_
            refine a_getr rfl rfl rfl (fun _ _ _ => rfl) rfl ?_
            refine a_astore_3 rfl rfl rfl ?_
            refine a_iload_1 rfl rfl ?_
            refine a_iconst (v := (-1)) rfl rfl rfl ?_
            refine a_cmp_ne rfl rfl rfl (fun _ => ?_) (fun c_10 => by first | exact absurd h1 c_10 | exact absurd c_10 h1)
            refine a_iload_1 rfl rfl ?_
            refine a_ifN_lt rfl rfl rfl (by omega) (fun c_19 => False.elim (c_19)) (fun _ => ?_)
            refine a_iload_1 rfl rfl ?_
            refine a_aload_3 rfl rfl ?_
            refine a_geti rfl rfl rfl (fun _ _ _ => rfl) ?_
            refine a_as (y := nI (gN A 12)) (c10 R t lt h H) ?_
            refine a_cmpN_lt rfl rfl rfl (by omega) (by omega) (fun _ => ?_) (fun c_27 => False.elim (by omega))
            refine a_aload_3 rfl rfl ?_
            refine a_iload_1 rfl rfl ?_
            refine a_virtI rfl rfl (e_kickAt H n hn) (Nat.le_of_ble_eq_true rfl) ⟨rfl, rfl, rfl, rfl⟩ rfl rfl rfl (Nat.le_of_ble_eq_true rfl) rfl rfl ?_
            refine a_istore_4 rfl rfl rfl ?_
            refine a_iload_2 rfl rfl ?_
            refine a_tabIn rfl (by decide) rfl rfl ?_
            refine a_iload_4 rfl rfl ?_
            refine a_statI rfl rfl (e_hourOfKick _ (by omega)) (Nat.le_of_ble_eq_true rfl) ⟨rfl, rfl, rfl⟩ rfl rfl rfl (Nat.le_of_ble_eq_true rfl) rfl ?_
            exact a_iret rfl rfl
          | 1, _ =>
            show avA _ 124 0 [.ref 7, .int (nI (n)), .int (nI 1), mvU, mvU] [] _ _
            refine a_aload_0 rfl rfl ?_
            refine a_getr rfl rfl rfl (fun _ _ _ => rfl) rfl ?_
            refine a_getr rfl rfl rfl (fun _ _ _ => rfl) rfl ?_
            refine a_astore_3 rfl rfl rfl ?_
            refine a_iload_1 rfl rfl ?_
            refine a_iconst (v := (-1)) rfl rfl rfl ?_
            refine a_cmp_ne rfl rfl rfl (fun _ => ?_) (fun c_10 => by first | exact absurd h1 c_10 | exact absurd c_10 h1)
            refine a_iload_1 rfl rfl ?_
            refine a_ifN_lt rfl rfl rfl (by omega) (fun c_19 => False.elim (c_19)) (fun _ => ?_)
            refine a_iload_1 rfl rfl ?_
            refine a_aload_3 rfl rfl ?_
            refine a_geti rfl rfl rfl (fun _ _ _ => rfl) ?_
            refine a_as (y := nI (gN A 12)) (c10 R t lt h H) ?_
            refine a_cmpN_lt rfl rfl rfl (by omega) (by omega) (fun _ => ?_) (fun c_27 => False.elim (by omega))
            refine a_aload_3 rfl rfl ?_
            refine a_iload_1 rfl rfl ?_
            refine a_virtI rfl rfl (e_kickAt H n hn) (Nat.le_of_ble_eq_true rfl) ⟨rfl, rfl, rfl, rfl⟩ rfl rfl rfl (Nat.le_of_ble_eq_true rfl) rfl rfl ?_
            refine a_istore_4 rfl rfl rfl ?_
            refine a_iload_2 rfl rfl ?_
            refine a_tabIn rfl (by decide) rfl rfl ?_
            refine a_iload_4 rfl rfl ?_
            refine a_statI rfl rfl (e_beastOfKick _ (by omega)) (Nat.le_of_ble_eq_true rfl) ⟨rfl, rfl, rfl⟩ rfl rfl rfl (Nat.le_of_ble_eq_true rfl) rfl ?_
            exact a_iret rfl rfl
          | 2, _ =>
            show avA _ 124 0 [.ref 7, .int (nI (n)), .int (nI 2), mvU, mvU] [] _ _
            refine a_aload_0 rfl rfl ?_
            refine a_getr rfl rfl rfl (fun _ _ _ => rfl) rfl ?_
            refine a_getr rfl rfl rfl (fun _ _ _ => rfl) rfl ?_
            refine a_astore_3 rfl rfl rfl ?_
            refine a_iload_1 rfl rfl ?_
            refine a_iconst (v := (-1)) rfl rfl rfl ?_
            refine a_cmp_ne rfl rfl rfl (fun _ => ?_) (fun c_10 => by first | exact absurd h1 c_10 | exact absurd c_10 h1)
            refine a_iload_1 rfl rfl ?_
            refine a_ifN_lt rfl rfl rfl (by omega) (fun c_19 => False.elim (c_19)) (fun _ => ?_)
            refine a_iload_1 rfl rfl ?_
            refine a_aload_3 rfl rfl ?_
            refine a_geti rfl rfl rfl (fun _ _ _ => rfl) ?_
            refine a_as (y := nI (gN A 12)) (c10 R t lt h H) ?_
            refine a_cmpN_lt rfl rfl rfl (by omega) (by omega) (fun _ => ?_) (fun c_27 => False.elim (by omega))
            refine a_aload_3 rfl rfl ?_
            refine a_iload_1 rfl rfl ?_
            refine a_virtI rfl rfl (e_kickAt H n hn) (Nat.le_of_ble_eq_true rfl) ⟨rfl, rfl, rfl, rfl⟩ rfl rfl rfl (Nat.le_of_ble_eq_true rfl) rfl rfl ?_
            refine a_istore_4 rfl rfl rfl ?_
            refine a_iload_2 rfl rfl ?_
            refine a_tabIn rfl (by decide) rfl rfl ?_
            refine a_iload_4 rfl rfl ?_
            refine a_statI rfl rfl (e_lightOfKick _ (by omega)) (Nat.le_of_ble_eq_true rfl) ⟨rfl, rfl, rfl⟩ rfl rfl rfl (Nat.le_of_ble_eq_true rfl) rfl ?_
            exact a_iret rfl rfl
        · intro L t lt rt rp sw h gl ok H
          refine ⟨h, gl, ?_, CF_refl, fun _ _ => rfl, H⟩
          show avA _ 279 0 [.ref 81, .int (nI (n)), .int (nI (q))] [] _ _
          refine a_iload_1 rfl rfl ?_
          refine a_iconst (v := (-1)) rfl rfl rfl ?_
          refine a_cmp_ne rfl rfl rfl (fun _ => ?_) (fun c_2 => by first | exact absurd h1 c_2 | exact absurd c_2 h1)
          refine a_iload_1 rfl rfl ?_
          refine a_iconst (v := (nI 0)) rfl rfl rfl ?_
          refine a_aload_0 rfl rfl ?_
          refine a_getr rfl rfl rfl (fun _ _ _ => rfl) rfl ?_
          refine a_bipush (v := (nI 12)) rfl rfl rfl ?_
          refine a_iald rfl rfl (Or.inl rfl) rfl (by omega) (by decide) ?_
          refine a_as (y := nI (gN A 12)) (by rw [H.1]; exact e12) ?_
          refine a_iconst (v := (nI 1)) rfl rfl rfl ?_
          refine a_isub rfl rfl ?_
          refine a_statI rfl rfl (r_isIn (nI n) (nI 0) (nI (gN A 12) - nI 1)) (Nat.le_of_ble_eq_true rfl) ⟨rfl, rfl, rfl⟩ rfl rfl rfl (Nat.le_of_ble_eq_true rfl) rfl ?_
          refine a_ifb_eq rfl rfl rfl (fun c_27 => by first | exact absurd c_27 (not_not_intro (by rw [pk_sub_toInt (by omega) (by omega), show (nI 0).toInt = 0 from rfl]; omega)) | exact absurd (not_not_intro (by rw [pk_sub_toInt (by omega) (by omega), show (nI 0).toInt = 0 from rfl]; omega)) c_27) (fun _ => ?_)
          refine a_iload_2 rfl rfl ?_
          refine a_iconst (v := (nI 0)) rfl rfl rfl ?_
          refine a_iconst (v := (nI 2)) rfl rfl rfl ?_
          refine a_statI rfl rfl (r_isIn0 (nI q) 0 2 (by omega) (by omega)) (Nat.le_of_ble_eq_true rfl) ⟨rfl, rfl, rfl⟩ rfl rfl rfl (Nat.le_of_ble_eq_true rfl) rfl ?_
          refine a_ifb_eq rfl rfl rfl (fun c_36 => by first | exact absurd c_36 (not_not_intro hw) | exact absurd (not_not_intro hw) c_36) (fun _ => ?_)
          refine a_aload_0 rfl rfl ?_
          refine a_iload_1 rfl rfl ?_
          refine a_iload_2 rfl rfl ?_
          refine a_virtI rfl rfl (r_entry ok H n (by omega) q hq) (Nat.le_of_ble_eq_true rfl) ⟨rfl, rfl, rfl, rfl⟩ rfl rfl rfl (Nat.le_of_ble_eq_true rfl) rfl rfl ?_
          refine a_goto rfl rfl ?_
          exact a_iret rfl rfl
      · refine ⟨-2, ?_, ?_, hA, rfl⟩
        · intro L t lt rt rp sw h gl R H hR
          refine ⟨h, lt, R, sw, ?_, CF_refl, H, by omega, by omega⟩
          show avA _ 124 0 [.ref 7, .int (nI (n)), .int (w), mvU, mvU] [] _ _
          refine a_aload_0 rfl rfl ?_
          refine a_getr rfl rfl rfl (fun _ _ _ => rfl) rfl ?_
          refine a_getr rfl rfl rfl (fun _ _ _ => rfl) rfl ?_
          refine a_astore_3 rfl rfl rfl ?_
          refine a_iload_1 rfl rfl ?_
          refine a_iconst (v := (-1)) rfl rfl rfl ?_
          refine a_cmp_ne rfl rfl rfl (fun _ => ?_) (fun c_10 => by first | exact absurd h1 c_10 | exact absurd c_10 h1)
          refine a_iload_1 rfl rfl ?_
          refine a_ifN_lt rfl rfl rfl (by omega) (fun c_19 => False.elim (c_19)) (fun _ => ?_)
          refine a_iload_1 rfl rfl ?_
          refine a_aload_3 rfl rfl ?_
          refine a_geti rfl rfl rfl (fun _ _ _ => rfl) ?_
          refine a_as (y := nI (gN A 12)) (c10 R t lt h H) ?_
          refine a_cmpN_lt rfl rfl rfl (by omega) (by omega) (fun _ => ?_) (fun c_27 => False.elim (by omega))
          refine a_aload_3 rfl rfl ?_
          refine a_iload_1 rfl rfl ?_
          refine a_virtI rfl rfl (e_kickAt H n hn) (Nat.le_of_ble_eq_true rfl) ⟨rfl, rfl, rfl, rfl⟩ rfl rfl rfl (Nat.le_of_ble_eq_true rfl) rfl rfl ?_
          refine a_istore_4 rfl rfl rfl ?_
          refine a_iload_2 rfl rfl ?_
          refine a_tabOut rfl (by omega) rfl ?_
          refine a_bipush (v := (-2)) rfl rfl rfl ?_
          exact a_iret rfl rfl
        · intro L t lt rt rp sw h gl ok H
          refine ⟨h, gl, ?_, CF_refl, fun _ _ => rfl, H⟩
          show avA _ 279 0 [.ref 81, .int (nI (n)), .int (w)] [] _ _
          refine a_iload_1 rfl rfl ?_
          refine a_iconst (v := (-1)) rfl rfl rfl ?_
          refine a_cmp_ne rfl rfl rfl (fun _ => ?_) (fun c_2 => by first | exact absurd h1 c_2 | exact absurd c_2 h1)
          refine a_iload_1 rfl rfl ?_
          refine a_iconst (v := (nI 0)) rfl rfl rfl ?_
          refine a_aload_0 rfl rfl ?_
          refine a_getr rfl rfl rfl (fun _ _ _ => rfl) rfl ?_
          refine a_bipush (v := (nI 12)) rfl rfl rfl ?_
          refine a_iald rfl rfl (Or.inl rfl) rfl (by omega) (by decide) ?_
          refine a_as (y := nI (gN A 12)) (by rw [H.1]; exact e12) ?_
          refine a_iconst (v := (nI 1)) rfl rfl rfl ?_
          refine a_isub rfl rfl ?_
          refine a_statI rfl rfl (r_isIn (nI n) (nI 0) (nI (gN A 12) - nI 1)) (Nat.le_of_ble_eq_true rfl) ⟨rfl, rfl, rfl⟩ rfl rfl rfl (Nat.le_of_ble_eq_true rfl) rfl ?_
          refine a_ifb_eq rfl rfl rfl (fun c_27 => ?_) (fun c_27 => ?_)
          · refine a_bipush (v := (-2)) rfl rfl rfl ?_
            exact a_iret rfl rfl
          · refine a_iload_2 rfl rfl ?_
            refine a_iconst (v := (nI 0)) rfl rfl rfl ?_
            refine a_iconst (v := (nI 2)) rfl rfl rfl ?_
            refine a_statI rfl rfl (r_isIn0 w 0 2 (by omega) (by omega)) (Nat.le_of_ble_eq_true rfl) ⟨rfl, rfl, rfl⟩ rfl rfl rfl (Nat.le_of_ble_eq_true rfl) rfl ?_
            refine a_ifb_eq rfl rfl rfl (fun _ => ?_) (fun c_36 => by first | exact absurd hw c_36 | exact absurd c_36 hw)
            refine a_bipush (v := (-2)) rfl rfl rfl ?_
            exact a_iret rfl rfl
    · refine ⟨-2, ?_, ?_, hA, rfl⟩
      · intro L t lt rt rp sw h gl R H hR
        refine ⟨h, lt, R, sw, ?_, CF_refl, H, by omega, by omega⟩
        show avA _ 124 0 [.ref 7, .int (i), .int (w), mvU, mvU] [] _ _
        refine a_aload_0 rfl rfl ?_
        refine a_getr rfl rfl rfl (fun _ _ _ => rfl) rfl ?_
        refine a_getr rfl rfl rfl (fun _ _ _ => rfl) rfl ?_
        refine a_astore_3 rfl rfl rfl ?_
        refine a_iload_1 rfl rfl ?_
        refine a_iconst (v := (-1)) rfl rfl rfl ?_
        refine a_cmp_ne rfl rfl rfl (fun _ => ?_) (fun c_10 => by first | exact absurd h1 c_10 | exact absurd c_10 h1)
        refine a_iload_1 rfl rfl ?_
        refine a_ifI_lt rfl rfl rfl rfl (fun c_19 => ?_) (fun c_19 => ?_)
        · refine a_bipush (v := (-2)) rfl rfl rfl ?_
          exact a_iret rfl rfl
        · refine a_iload_1 rfl rfl ?_
          refine a_aload_3 rfl rfl ?_
          refine a_geti rfl rfl rfl (fun _ _ _ => rfl) ?_
          refine a_as (y := nI (gN A 12)) (c10 R t lt h H) ?_
          refine a_cmpI_lt rfl rfl rfl rfl (nI_toInt (by omega)) (fun c_27 => False.elim (by omega)) (fun _ => ?_)
          refine a_bipush (v := (-2)) rfl rfl rfl ?_
          exact a_iret rfl rfl
      · intro L t lt rt rp sw h gl ok H
        refine ⟨h, gl, ?_, CF_refl, fun _ _ => rfl, H⟩
        show avA _ 279 0 [.ref 81, .int (i), .int (w)] [] _ _
        refine a_iload_1 rfl rfl ?_
        refine a_iconst (v := (-1)) rfl rfl rfl ?_
        refine a_cmp_ne rfl rfl rfl (fun _ => ?_) (fun c_2 => by first | exact absurd h1 c_2 | exact absurd c_2 h1)
        refine a_iload_1 rfl rfl ?_
        refine a_iconst (v := (nI 0)) rfl rfl rfl ?_
        refine a_aload_0 rfl rfl ?_
        refine a_getr rfl rfl rfl (fun _ _ _ => rfl) rfl ?_
        refine a_bipush (v := (nI 12)) rfl rfl rfl ?_
        refine a_iald rfl rfl (Or.inl rfl) rfl (by omega) (by decide) ?_
        refine a_as (y := nI (gN A 12)) (by rw [H.1]; exact e12) ?_
        refine a_iconst (v := (nI 1)) rfl rfl rfl ?_
        refine a_isub rfl rfl ?_
        refine a_statI rfl rfl (r_isIn i (nI 0) (nI (gN A 12) - nI 1)) (Nat.le_of_ble_eq_true rfl) ⟨rfl, rfl, rfl⟩ rfl rfl rfl (Nat.le_of_ble_eq_true rfl) rfl ?_
        refine a_ifb_eq rfl rfl rfl (fun _ => ?_) (fun c_27 => by first | exact absurd (by rw [pk_sub_toInt (by omega) (by omega), show (nI 0).toInt = 0 from rfl]; omega) c_27 | exact absurd c_27 (by rw [pk_sub_toInt (by omega) (by omega), show (nI 0).toInt = 0 from rfl]; omega))
        refine a_bipush (v := (-2)) rfl rfl rfl ?_
        exact a_iret rfl rfl
end A3
section LE
variable {L t : Nat} {lt rt rp : Option Nat} {sw : Bool} {h : Nat → Nat → Int32} {gl : Nat → Nat → Int64} {A B : Nat → Int32} {TX : Nat → Txt} {R : Nat}
theorem l_cledger (H : CI A B TX R t lt h) (b : Nat) (hb : b < 5) (m : Nat) : ∀ i, i + m = gN A 12 → avA 1 175 34 [.ref 7, .int (nI b), .ref 14, .int (nI (lgN A b i)), .int (nI i)] [] (sX L t lt rt rp sw h gl) (some (.int (nI (lgN A b (gN A 12)))), sX L t lt rt rp sw h gl) := by
  have h12 := gN_le (m := 30) H.1.1 (i := 12) (by omega) (by decide)
  have c10 : h 14 10 = nI (gN A 12) := by
    obtain ⟨bf, bc, b1, b2, b3, b4, b5⟩ := H.2.2.2.1.2.2.1
    rw [(b5 rfl).1]; exact b4
  induction m with
  | zero =>
    intro i hi
    have e : i = gN A 12 := by omega
    subst e
    refine a_iload_4 rfl rfl ?_
    refine a_aload_2 rfl rfl ?_
    refine a_geti rfl rfl rfl (fun _ _ _ => rfl) ?_
    refine a_as (y := nI (gN A 12)) c10 ?_
    refine a_cmpN_ge rfl rfl rfl (by omega) (by omega) (fun _ => ?_) (fun c_40 => False.elim (by omega))
    refine a_iload_3 rfl rfl ?_
    exact a_iret rfl rfl
  | succ m ih =>
    intro i hi
    have l1 := (bk_v H.1 i (by omega)).2
    have l2 := lgN_le A b i
    have Z := ih (i + 1) (by omega)
    rw [lgN] at Z
    refine a_iload_4 rfl rfl ?_
    refine a_aload_2 rfl rfl ?_
    refine a_geti rfl rfl rfl (fun _ _ _ => rfl) ?_
    refine a_as (y := nI (gN A 12)) c10 ?_
    refine a_cmpN_ge rfl rfl rfl (by omega) (by omega) (fun c_40 => False.elim (by omega)) (fun _ => ?_)
    refine a_aload_2 rfl rfl ?_
    refine a_iload_4 rfl rfl ?_
    refine a_virtI rfl rfl (e_kickAt H i (by omega)) (Nat.le_of_ble_eq_true rfl) ⟨rfl, rfl, rfl, rfl⟩ rfl rfl rfl (Nat.le_of_ble_eq_true rfl) rfl rfl ?_
    refine a_statI rfl rfl (e_beastOfKick _ (by omega)) (Nat.le_of_ble_eq_true rfl) ⟨rfl, rfl, rfl⟩ rfl rfl rfl (Nat.le_of_ble_eq_true rfl) rfl ?_
    refine a_iload_1 rfl rfl ?_
    refine a_cmpN_ne rfl rfl rfl (by omega) (by omega) (fun c_53 => ?_) (fun c_53 => ?_)
    · refine a_iinc_4 rfl rfl (nI_inc _ _) rfl ?_
      refine a_goto rfl rfl ?_
      first | (rw [if_pos c_53] at Z; exact Z) | (rw [if_neg c_53] at Z; exact Z)
    · refine a_iinc_3 rfl rfl (nI_inc _ _) rfl ?_
      refine a_iinc_4 rfl rfl (nI_inc _ _) rfl ?_
      refine a_goto rfl rfl ?_
      first | (rw [if_pos c_53] at Z; exact Z) | (rw [if_neg c_53] at Z; exact Z)
theorem l_rledger (ok : okA A) (H : RI A B TX h) (b : Nat) (hb : b < 5) (m : Nat) : ∀ i, i + m = gN A 12 → avA 2 281 20 [.ref 81, .int (nI b), .int (nI (lgN A b i)), .int (nI i)] [] (sX L t lt rt rp sw h gl) (some (.int (nI (lgN A b (gN A 12)))), sX L t lt rt rp sw h gl) := by
  have h12 := gN_le (m := 30) ok.1 (i := 12) (by omega) (by decide)
  have e12 : h 82 12 = nI (gN A 12) := by rw [H.1]; exact gN_eq ok.1 (by omega) (by decide)
  induction m with
  | zero =>
    intro i hi
    have e : i = gN A 12 := by omega
    subst e
    refine a_iload_3 rfl rfl ?_
    refine a_aload_0 rfl rfl ?_
    refine a_getr rfl rfl rfl (fun _ _ _ => rfl) rfl ?_
    refine a_bipush (v := (nI 12)) rfl rfl rfl ?_
    refine a_iald rfl rfl (Or.inl rfl) rfl (by omega) (by decide) ?_
    refine a_as (y := nI (gN A 12)) e12 ?_
    refine a_cmpN_ge rfl rfl rfl (by omega) (by omega) (fun _ => ?_) (fun c_28 => False.elim (by omega))
    refine a_iload_2 rfl rfl ?_
    exact a_iret rfl rfl
  | succ m ih =>
    intro i hi
    have l1 := (bk_v ok i (by omega)).2
    have Z := ih (i + 1) (by omega)
    rw [lgN] at Z
    refine a_iload_3 rfl rfl ?_
    refine a_aload_0 rfl rfl ?_
    refine a_getr rfl rfl rfl (fun _ _ _ => rfl) rfl ?_
    refine a_bipush (v := (nI 12)) rfl rfl rfl ?_
    refine a_iald rfl rfl (Or.inl rfl) rfl (by omega) (by decide) ?_
    refine a_as (y := nI (gN A 12)) e12 ?_
    refine a_cmpN_ge rfl rfl rfl (by omega) (by omega) (fun c_28 => False.elim (by omega)) (fun _ => ?_)
    refine a_iload_2 rfl rfl ?_
    refine a_iload_1 rfl rfl ?_
    refine a_iconst (v := (-1)) rfl rfl rfl ?_
    refine a_cmp_eq rfl rfl rfl (fun c_34 => by first | exact absurd c_34 (nI_ne_m1 (by omega)) | exact absurd (nI_ne_m1 (by omega)) c_34) (fun _ => ?_)
    refine a_aload_0 rfl rfl ?_
    refine a_iload_3 rfl rfl ?_
    refine a_iconst (v := (nI 1)) rfl rfl rfl ?_
    refine a_virtI rfl rfl (r_entry ok H i (by omega) 1 (by omega)) (Nat.le_of_ble_eq_true rfl) ⟨rfl, rfl, rfl, rfl⟩ rfl rfl rfl (Nat.le_of_ble_eq_true rfl) rfl rfl ?_
    refine a_as (y := nI (gN A (1696 + i) / 16 % 8)) rfl ?_
    refine a_iload_1 rfl rfl ?_
    refine a_cmpN_ne rfl rfl rfl (by omega) (by omega) (fun c_44 => ?_) (fun c_44 => ?_)
    · refine a_iconst (v := (nI 0)) rfl rfl rfl ?_
      refine a_iaddN rfl rfl ?_
      refine a_istore_2 rfl rfl rfl ?_
      refine a_iinc_3 rfl rfl (nI_inc _ _) rfl ?_
      refine a_goto rfl rfl ?_
      first | (rw [if_pos c_44] at Z; exact Z) | (rw [if_neg c_44] at Z; exact Z)
    · refine a_iconst (v := (nI 1)) rfl rfl rfl ?_
      refine a_goto rfl rfl ?_
      refine a_iaddN rfl rfl ?_
      refine a_istore_2 rfl rfl rfl ?_
      refine a_iinc_3 rfl rfl (nI_inc _ _) rfl ?_
      refine a_goto rfl rfl ?_
      first | (rw [if_pos c_44] at Z; exact Z) | (rw [if_neg c_44] at Z; exact Z)
theorem l_rledger0 (ok : okA A) (H : RI A B TX h) (m : Nat) : ∀ i, i + m = gN A 12 → avA 2 281 20 [.ref 81, .int (-1), .int (nI i), .int (nI i)] [] (sX L t lt rt rp sw h gl) (some (.int (nI (gN A 12))), sX L t lt rt rp sw h gl) := by
  have h12 := gN_le (m := 30) ok.1 (i := 12) (by omega) (by decide)
  have e12 : h 82 12 = nI (gN A 12) := by rw [H.1]; exact gN_eq ok.1 (by omega) (by decide)
  induction m with
  | zero =>
    intro i hi
    have e : i = gN A 12 := by omega
    subst e
    refine a_iload_3 rfl rfl ?_
    refine a_aload_0 rfl rfl ?_
    refine a_getr rfl rfl rfl (fun _ _ _ => rfl) rfl ?_
    refine a_bipush (v := (nI 12)) rfl rfl rfl ?_
    refine a_iald rfl rfl (Or.inl rfl) rfl (by omega) (by decide) ?_
    refine a_as (y := nI (gN A 12)) e12 ?_
    refine a_cmpN_ge rfl rfl rfl (by omega) (by omega) (fun _ => ?_) (fun c_28 => False.elim (by omega))
    refine a_iload_2 rfl rfl ?_
    exact a_iret rfl rfl
  | succ m ih =>
    intro i hi
    refine a_iload_3 rfl rfl ?_
    refine a_aload_0 rfl rfl ?_
    refine a_getr rfl rfl rfl (fun _ _ _ => rfl) rfl ?_
    refine a_bipush (v := (nI 12)) rfl rfl rfl ?_
    refine a_iald rfl rfl (Or.inl rfl) rfl (by omega) (by decide) ?_
    refine a_as (y := nI (gN A 12)) e12 ?_
    refine a_cmpN_ge rfl rfl rfl (by omega) (by omega) (fun c_28 => False.elim (by omega)) (fun _ => ?_)
    refine a_iload_2 rfl rfl ?_
    refine a_iload_1 rfl rfl ?_
    refine a_iconst (v := (-1)) rfl rfl rfl ?_
    refine a_cmp_eq rfl rfl rfl (fun _ => ?_) (fun c_34 => by first | exact absurd rfl c_34 | exact absurd c_34 rfl)
    refine a_iconst (v := (nI 1)) rfl rfl rfl ?_
    refine a_goto rfl rfl ?_
    refine a_iaddN rfl rfl ?_
    refine a_istore_2 rfl rfl rfl ?_
    refine a_iinc_3 rfl rfl (nI_inc _ _) rfl ?_
    refine a_goto rfl rfl ?_
    exact ih (i + 1) (by omega)
theorem l_cwild (H : CI A B TX R t lt h) (m : Nat) : ∀ b, b + m = gN A 0 → 0 < b → avA 0 172 12 [.ref 7, .ref 14, .int (nI (wlN (fun b => A (14 + 5 * b)) b)), .int (nI b)] [] (sX L t lt rt rp sw h gl) (some (.int (nI (wlN (fun b => A (14 + 5 * b)) (gN A 0)))), sX L t lt rt rp sw h gl) := by
  obtain ⟨e4, h5⟩ := CI_e4 H
  induction m with
  | zero =>
    intro b hb h0
    have e : b = gN A 0 := by omega
    subst e
    refine a_iload_3 rfl rfl ?_
    refine a_aload_1 rfl rfl ?_
    refine a_geti rfl rfl rfl (fun _ _ _ => rfl) ?_
    refine a_as (y := nI (gN A 0)) e4 ?_
    refine a_cmpN_ge rfl rfl rfl (by omega) (by omega) (fun _ => ?_) (fun c_17 => False.elim (by omega))
    refine a_iload_2 rfl rfl ?_
    exact a_iret rfl rfl
  | succ m ih =>
    intro b hb h0
    have Z := ih (b + 1) (by omega) (by omega)
    rw [wlN, if_neg (by omega)] at Z
    have lt' := wlN_lt (fun b => A (14 + 5 * b)) b h0
    have z1 : h 16 b = A (14 + 5 * b) := (H.2.2.2.1.2.1.2.2.2.2.2 b (by omega)).2.1
    have z2 : h 16 (wlN (fun b => A (14 + 5 * b)) b) = A (14 + 5 * wlN (fun b => A (14 + 5 * b)) b) := (H.2.2.2.1.2.1.2.2.2.2.2 _ (by omega)).2.1
    refine a_iload_3 rfl rfl ?_
    refine a_aload_1 rfl rfl ?_
    refine a_geti rfl rfl rfl (fun _ _ _ => rfl) ?_
    refine a_as (y := nI (gN A 0)) e4 ?_
    refine a_cmpN_ge rfl rfl rfl (by omega) (by omega) (fun c_17 => False.elim (by omega)) (fun _ => ?_)
    refine a_iload_2 rfl rfl ?_
    refine a_iconst (v := (-1)) rfl rfl rfl ?_
    refine a_cmp_eq rfl rfl rfl (fun c_22 => by first | exact absurd c_22 (nI_ne_m1 (by omega)) | exact absurd (nI_ne_m1 (by omega)) c_22) (fun _ => ?_)
    refine a_aload_1 rfl rfl ?_
    refine a_getr rfl rfl rfl (fun _ _ _ => rfl) rfl ?_
    refine a_iload_3 rfl rfl ?_
    refine a_iald rfl rfl (Or.inl rfl) rfl (by omega) (by decide) ?_
    refine a_as (y := _) z1 ?_
    refine a_aload_1 rfl rfl ?_
    refine a_getr rfl rfl rfl (fun _ _ _ => rfl) rfl ?_
    refine a_iload_2 rfl rfl ?_
    refine a_iald rfl rfl (Or.inl rfl) rfl (by omega) (by decide) ?_
    refine a_as (y := _) z2 ?_
    refine a_cmpI_le rfl rfl rfl rfl rfl (fun c_37 => ?_) (fun c_37 => ?_)
    · refine a_iinc_3 rfl rfl (nI_inc _ _) rfl ?_
      refine a_goto rfl rfl ?_
      first | (rw [if_pos (show (A (14 + 5 * wlN (fun b => A (14 + 5 * b)) b)).toInt < (A (14 + 5 * b)).toInt by omega)] at Z; exact Z) | (rw [if_neg (show ¬ (A (14 + 5 * wlN (fun b => A (14 + 5 * b)) b)).toInt < (A (14 + 5 * b)).toInt by omega)] at Z; exact Z)
    · refine a_iload_3 rfl rfl ?_
      refine a_istore_2 rfl rfl rfl ?_
      refine a_iinc_3 rfl rfl (nI_inc _ _) rfl ?_
      refine a_goto rfl rfl ?_
      first | (rw [if_pos (show (A (14 + 5 * wlN (fun b => A (14 + 5 * b)) b)).toInt < (A (14 + 5 * b)).toInt by omega)] at Z; exact Z) | (rw [if_neg (show ¬ (A (14 + 5 * wlN (fun b => A (14 + 5 * b)) b)).toInt < (A (14 + 5 * b)).toInt by omega)] at Z; exact Z)
theorem l_rwild (ok : okA A) (H : RI A B TX h) (m : Nat) : ∀ b, b + m = gN A 0 → 0 < b → avA 1 282 4 [.ref 81, .int (nI (wlN (fun b => A (14 + 5 * b)) b)), .int (nI b)] [] (sX L t lt rt rp sw h gl) (some (.int (nI (wlN (fun b => A (14 + 5 * b)) (gN A 0)))), sX L t lt rt rp sw h gl) := by
  have h5 := gN_le (m := 5) ok.1 (i := 0) (by omega) (by decide)
  have e0 : h 82 0 = nI (gN A 0) := by rw [H.1]; exact gN_eq ok.1 (by omega) (by decide)
  induction m with
  | zero =>
    intro b hb h0
    have e : b = gN A 0 := by omega
    subst e
    refine a_iload_2 rfl rfl ?_
    refine a_aload_0 rfl rfl ?_
    refine a_getr rfl rfl rfl (fun _ _ _ => rfl) rfl ?_
    refine a_iconst (v := (nI 0)) rfl rfl rfl ?_
    refine a_iald rfl rfl (Or.inl rfl) rfl (by omega) (by decide) ?_
    refine a_as (y := nI (gN A 0)) e0 ?_
    refine a_cmpN_ge rfl rfl rfl (by omega) (by omega) (fun _ => ?_) (fun c_11 => False.elim (by omega))
    refine a_iload_1 rfl rfl ?_
    exact a_iret rfl rfl
  | succ m ih =>
    intro b hb h0
    have Z := ih (b + 1) (by omega) (by omega)
    rw [wlN, if_neg (by omega)] at Z
    have lt' := wlN_lt (fun b => A (14 + 5 * b)) b h0
    refine a_iload_2 rfl rfl ?_
    refine a_aload_0 rfl rfl ?_
    refine a_getr rfl rfl rfl (fun _ _ _ => rfl) rfl ?_
    refine a_iconst (v := (nI 0)) rfl rfl rfl ?_
    refine a_iald rfl rfl (Or.inl rfl) rfl (by omega) (by decide) ?_
    refine a_as (y := nI (gN A 0)) e0 ?_
    refine a_cmpN_ge rfl rfl rfl (by omega) (by omega) (fun c_11 => False.elim (by omega)) (fun _ => ?_)
    refine a_iload_1 rfl rfl ?_
    refine a_iconst (v := (-1)) rfl rfl rfl ?_
    refine a_cmp_eq rfl rfl rfl (fun c_16 => by first | exact absurd c_16 (nI_ne_m1 (by omega)) | exact absurd (nI_ne_m1 (by omega)) c_16) (fun _ => ?_)
    refine a_aload_0 rfl rfl ?_
    refine a_iload_2 rfl rfl ?_
    refine a_iconst (v := (nI 1)) rfl rfl rfl ?_
    refine a_virtI rfl rfl (r_get b 1 (by omega) (by omega)) (Nat.le_of_ble_eq_true rfl) ⟨rfl, rfl, rfl, rfl⟩ rfl rfl rfl (Nat.le_of_ble_eq_true rfl) rfl rfl ?_
    refine a_as (y := A (14 + 5 * b)) (by rw [H.1, show 13 + 5 * b + 1 = 14 + 5 * b by omega]) ?_
    refine a_aload_0 rfl rfl ?_
    refine a_iload_1 rfl rfl ?_
    refine a_iconst (v := (nI 1)) rfl rfl rfl ?_
    refine a_virtI rfl rfl (r_get _ 1 (by omega) (by omega)) (Nat.le_of_ble_eq_true rfl) ⟨rfl, rfl, rfl, rfl⟩ rfl rfl rfl (Nat.le_of_ble_eq_true rfl) rfl rfl ?_
    refine a_as (y := A (14 + 5 * wlN (fun b => A (14 + 5 * b)) b)) (by rw [H.1]; exact congrArg A (by omega)) ?_
    refine a_cmpI_le rfl rfl rfl rfl rfl (fun c_31 => ?_) (fun c_31 => ?_)
    · refine a_iinc_2 rfl rfl (nI_inc _ _) rfl ?_
      refine a_goto rfl rfl ?_
      first | (rw [if_pos (show (A (14 + 5 * wlN (fun b => A (14 + 5 * b)) b)).toInt < (A (14 + 5 * b)).toInt by omega)] at Z; exact Z) | (rw [if_neg (show ¬ (A (14 + 5 * wlN (fun b => A (14 + 5 * b)) b)).toInt < (A (14 + 5 * b)).toInt by omega)] at Z; exact Z)
    · refine a_iload_2 rfl rfl ?_
      refine a_istore_1 rfl rfl rfl ?_
      refine a_iinc_2 rfl rfl (nI_inc _ _) rfl ?_
      refine a_goto rfl rfl ?_
      first | (rw [if_pos (show (A (14 + 5 * wlN (fun b => A (14 + 5 * b)) b)).toInt < (A (14 + 5 * b)).toInt by omega)] at Z; exact Z) | (rw [if_neg (show ¬ (A (14 + 5 * wlN (fun b => A (14 + 5 * b)) b)).toInt < (A (14 + 5 * b)).toInt by omega)] at Z; exact Z)
end LE
section A4
variable {A B : Nat → Int32} {TX : Nat → Txt}
theorem p_ledger (hA : okA A) (b : Int32) : ∃ r, opP 0 1 175 [.ref 7, .int b] 2 281 [.ref 81, .int b] TX A B r A B := by
  have h5 := gN_le (m := 5) hA.1 (i := 0) (by omega) (by decide)
  have e0 : A 0 = nI (gN A 0) := gN_eq hA.1 (by omega) (by decide)
  by_cases h1 : b = -1
  · subst h1
    refine ⟨nI (gN A 12), ?_, ?_, hA, rfl⟩
    · intro L t lt rt rp sw h gl R H hR
      have c10 : h 14 10 = nI (gN A 12) := by
        obtain ⟨bf, bc, b1, b2, b3, b4, b5⟩ := H.2.2.2.1.2.2.1
        rw [(b5 rfl).1]; exact b4
      refine ⟨h, lt, R, sw, ?_, CF_refl, H, by omega, by omega⟩
      show avA _ 175 0 [.ref 7, .int (-1), mvU, mvU, mvU] [] _ _
      refine a_aload_0 rfl rfl ?_
      refine a_getr rfl rfl rfl (fun _ _ _ => rfl) rfl ?_
      refine a_getr rfl rfl rfl (fun _ _ _ => rfl) rfl ?_
      refine a_astore_2 rfl rfl rfl ?_
      refine a_iload_1 rfl rfl ?_
      refine a_iconst (v := (-1)) rfl rfl rfl ?_
      refine a_cmp_ne rfl rfl rfl (fun c_10 => by first | exact absurd c_10 (not_not_intro rfl) | exact absurd (not_not_intro rfl) c_10) (fun _ => ?_)
      refine a_aload_2 rfl rfl ?_
      refine a_geti rfl rfl rfl (fun _ _ _ => rfl) ?_
      refine a_as (y := _) c10 ?_
      exact a_iret rfl rfl
    · intro L t lt rt rp sw h gl ok H
      refine ⟨h, gl, ?_, CF_refl, fun _ _ => rfl, H⟩
      show avA _ 281 0 [.ref 81, .int (-1), mvU, mvU] [] _ _
      refine a_iload_1 rfl rfl ?_
      refine a_iconst (v := (-1)) rfl rfl rfl ?_
      refine a_cmp_eq rfl rfl rfl (fun _ => ?_) (fun c_2 => by first | exact absurd rfl c_2 | exact absurd c_2 rfl)
      refine a_iconst (v := (nI 0)) rfl rfl rfl ?_
      refine a_istore_2 rfl rfl rfl ?_
      refine a_iconst (v := (nI 0)) rfl rfl rfl ?_
      refine a_istore_3 rfl rfl rfl ?_
      exact l_rledger0 ok H (gN A 12) 0 (by omega)
  · by_cases hb : 0 ≤ b.toInt ∧ b.toInt < gN A 0
    · obtain ⟨n, hn, rfl, _⟩ := cell_of (m := gN A 0) hb.1 hb.2
      refine ⟨nI (lgN A n (gN A 12)), ?_, ?_, hA, rfl⟩
      · intro L t lt rt rp sw h gl R H hR
        obtain ⟨e4, _⟩ := CI_e4 H
        refine ⟨h, lt, R, sw, ?_, CF_refl, H, by omega, by omega⟩
        show avA _ 175 0 [.ref 7, .int (nI (n)), mvU, mvU, mvU] [] _ _
        refine a_aload_0 rfl rfl ?_
        refine a_getr rfl rfl rfl (fun _ _ _ => rfl) rfl ?_
        refine a_getr rfl rfl rfl (fun _ _ _ => rfl) rfl ?_
        refine a_astore_2 rfl rfl rfl ?_
        refine a_iload_1 rfl rfl ?_
        refine a_iconst (v := (-1)) rfl rfl rfl ?_
        refine a_cmp_ne rfl rfl rfl (fun _ => ?_) (fun c_10 => by first | exact absurd h1 c_10 | exact absurd c_10 h1)
        refine a_aload_0 rfl rfl ?_
        refine a_iload_1 rfl rfl ?_
        refine a_virtI rfl rfl (e_isBeast (gN A 0) h5 e4 (nI n)) (Nat.le_of_ble_eq_true rfl) ⟨rfl, rfl, rfl, rfl⟩ rfl rfl rfl (Nat.le_of_ble_eq_true rfl) rfl rfl ?_
        refine a_ifb_ne rfl rfl rfl (fun _ => ?_) (fun c_23 => by first | exact absurd hb c_23 | exact absurd c_23 hb)
        refine a_iconst (v := (nI 0)) rfl rfl rfl ?_
        refine a_istore_3 rfl rfl rfl ?_
        refine a_iconst (v := (nI 0)) rfl rfl rfl ?_
        refine a_istore_4 rfl rfl rfl ?_
        exact l_cledger H n (by omega) (gN A 12) 0 (by omega)
      · intro L t lt rt rp sw h gl ok H
        refine ⟨h, gl, ?_, CF_refl, fun _ _ => rfl, H⟩
        show avA _ 281 0 [.ref 81, .int (nI (n)), mvU, mvU] [] _ _
        refine a_iload_1 rfl rfl ?_
        refine a_iconst (v := (-1)) rfl rfl rfl ?_
        refine a_cmp_eq rfl rfl rfl (fun c_2 => by first | exact absurd c_2 h1 | exact absurd h1 c_2) (fun _ => ?_)
        refine a_aload_0 rfl rfl ?_
        refine a_iload_1 rfl rfl ?_
        refine a_virtI rfl rfl (r_isBeast (gN A 0) h5 (by rw [H.1]; exact e0) (nI n)) (Nat.le_of_ble_eq_true rfl) ⟨rfl, rfl, rfl, rfl⟩ rfl rfl rfl (Nat.le_of_ble_eq_true rfl) rfl rfl ?_
        refine a_ifb_ne rfl rfl rfl (fun _ => ?_) (fun c_10 => by first | exact absurd hb c_10 | exact absurd c_10 hb)
        refine a_iconst (v := (nI 0)) rfl rfl rfl ?_
        refine a_istore_2 rfl rfl rfl ?_
        refine a_iconst (v := (nI 0)) rfl rfl rfl ?_
        refine a_istore_3 rfl rfl rfl ?_
        exact l_rledger ok H n (by omega) (gN A 12) 0 (by omega)
    · refine ⟨-2, ?_, ?_, hA, rfl⟩
      · intro L t lt rt rp sw h gl R H hR
        obtain ⟨e4, _⟩ := CI_e4 H
        refine ⟨h, lt, R, sw, ?_, CF_refl, H, by omega, by omega⟩
        show avA _ 175 0 [.ref 7, .int (b), mvU, mvU, mvU] [] _ _
        refine a_aload_0 rfl rfl ?_
        refine a_getr rfl rfl rfl (fun _ _ _ => rfl) rfl ?_
        refine a_getr rfl rfl rfl (fun _ _ _ => rfl) rfl ?_
        refine a_astore_2 rfl rfl rfl ?_
        refine a_iload_1 rfl rfl ?_
        refine a_iconst (v := (-1)) rfl rfl rfl ?_
        refine a_cmp_ne rfl rfl rfl (fun _ => ?_) (fun c_10 => by first | exact absurd h1 c_10 | exact absurd c_10 h1)
        refine a_aload_0 rfl rfl ?_
        refine a_iload_1 rfl rfl ?_
        refine a_virtI rfl rfl (e_isBeast (gN A 0) h5 e4 b) (Nat.le_of_ble_eq_true rfl) ⟨rfl, rfl, rfl, rfl⟩ rfl rfl rfl (Nat.le_of_ble_eq_true rfl) rfl rfl ?_
        refine a_ifb_ne rfl rfl rfl (fun c_23 => by first | exact absurd c_23 hb | exact absurd hb c_23) (fun _ => ?_)
        refine a_bipush (v := (-2)) rfl rfl rfl ?_
        exact a_iret rfl rfl
      · intro L t lt rt rp sw h gl ok H
        refine ⟨h, gl, ?_, CF_refl, fun _ _ => rfl, H⟩
        show avA _ 281 0 [.ref 81, .int (b), mvU, mvU] [] _ _
        refine a_iload_1 rfl rfl ?_
        refine a_iconst (v := (-1)) rfl rfl rfl ?_
        refine a_cmp_eq rfl rfl rfl (fun c_2 => by first | exact absurd c_2 h1 | exact absurd h1 c_2) (fun _ => ?_)
        refine a_aload_0 rfl rfl ?_
        refine a_iload_1 rfl rfl ?_
        refine a_virtI rfl rfl (r_isBeast (gN A 0) h5 (by rw [H.1]; exact e0) b) (Nat.le_of_ble_eq_true rfl) ⟨rfl, rfl, rfl, rfl⟩ rfl rfl rfl (Nat.le_of_ble_eq_true rfl) rfl rfl ?_
        refine a_ifb_ne rfl rfl rfl (fun c_10 => by first | exact absurd c_10 hb | exact absurd hb c_10) (fun _ => ?_)
        refine a_bipush (v := (-2)) rfl rfl rfl ?_
        exact a_iret rfl rfl
theorem p_wildest (hA : okA A) : ∃ r, opP 0 0 172 [.ref 7] 1 282 [.ref 81] TX A B r A B := by
  have h5 := gN_le (m := 5) hA.1 (i := 0) (by omega) (by decide)
  have e0 : A 0 = nI (gN A 0) := gN_eq hA.1 (by omega) (by decide)
  by_cases hz : gN A 0 = 0
  · refine ⟨-1, ?_, ?_, hA, rfl⟩
    · intro L t lt rt rp sw h gl R H hR
      obtain ⟨e4, _⟩ := CI_e4 H
      refine ⟨h, lt, R, sw, ?_, CF_refl, H, by omega, by omega⟩
      show avA _ 172 0 [.ref 7, mvU, mvU, mvU] [] _ _
      refine a_aload_0 rfl rfl ?_
      refine a_getr rfl rfl rfl (fun _ _ _ => rfl) rfl ?_
      refine a_getr rfl rfl rfl (fun _ _ _ => rfl) rfl ?_
      refine a_astore_1 rfl rfl rfl ?_
      refine a_iconst (v := (-1)) rfl rfl rfl ?_
      refine a_istore_2 rfl rfl rfl ?_
      refine a_iconst (v := (nI 0)) rfl rfl rfl ?_
      refine a_istore_3 rfl rfl rfl ?_
      refine a_iload_3 rfl rfl ?_
      refine a_aload_1 rfl rfl ?_
      refine a_geti rfl rfl rfl (fun _ _ _ => rfl) ?_
      refine a_as (y := nI (gN A 0)) e4 ?_
      refine a_cmpN_ge rfl rfl rfl (by omega) (by omega) (fun _ => ?_) (fun c_17 => False.elim (by omega))
      refine a_iload_2 rfl rfl ?_
      exact a_iret rfl rfl
    · intro L t lt rt rp sw h gl ok H
      refine ⟨h, gl, ?_, CF_refl, fun _ _ => rfl, H⟩
      show avA _ 282 0 [.ref 81, mvU, mvU] [] _ _
      refine a_iconst (v := (-1)) rfl rfl rfl ?_
      refine a_istore_1 rfl rfl rfl ?_
      refine a_iconst (v := (nI 0)) rfl rfl rfl ?_
      refine a_istore_2 rfl rfl rfl ?_
      refine a_iload_2 rfl rfl ?_
      refine a_aload_0 rfl rfl ?_
      refine a_getr rfl rfl rfl (fun _ _ _ => rfl) rfl ?_
      refine a_iconst (v := (nI 0)) rfl rfl rfl ?_
      refine a_iald rfl rfl (Or.inl rfl) rfl (by omega) (by decide) ?_
      refine a_as (y := nI (gN A 0)) (by rw [H.1]; exact e0) ?_
      refine a_cmpN_ge rfl rfl rfl (by omega) (by omega) (fun _ => ?_) (fun c_11 => False.elim (by omega))
      refine a_iload_1 rfl rfl ?_
      exact a_iret rfl rfl
  · refine ⟨nI (wlN (fun b => A (14 + 5 * b)) (gN A 0)), ?_, ?_, hA, rfl⟩
    · intro L t lt rt rp sw h gl R H hR
      obtain ⟨e4, _⟩ := CI_e4 H
      refine ⟨h, lt, R, sw, ?_, CF_refl, H, by omega, by omega⟩
      have Z := l_cwild (L := L) (rt := rt) (rp := rp) (sw := sw) (gl := gl) H (gN A 0 - 1) 1 (by omega) (by omega)
      have S : ∀ y, avA 0 172 12 [.ref 7, .ref 14, .int y, .int (nI 0)] [] (sX L t lt rt rp sw h gl) (some (.int (nI (wlN (fun b => A (14 + 5 * b)) (gN A 0)))), sX L t lt rt rp sw h gl) → True := fun _ _ => trivial
      have Z0 : avA 0 172 40 [.ref 7, .ref 14, .int (-1), .int (nI 0)] [] (sX L t lt rt rp sw h gl) (some (.int (nI (wlN (fun b => A (14 + 5 * b)) (gN A 0)))), sX L t lt rt rp sw h gl) := by
        refine a_iload_3 rfl rfl ?_
        refine a_istore_2 rfl rfl rfl ?_
        refine a_iinc_3 (v := (nI 1)) rfl rfl (by decide) rfl ?_
        refine a_goto rfl rfl ?_
        exact Z
      show avA _ 172 0 [.ref 7, mvU, mvU, mvU] [] _ _
      refine a_aload_0 rfl rfl ?_
      refine a_getr rfl rfl rfl (fun _ _ _ => rfl) rfl ?_
      refine a_getr rfl rfl rfl (fun _ _ _ => rfl) rfl ?_
      refine a_astore_1 rfl rfl rfl ?_
      refine a_iconst (v := (-1)) rfl rfl rfl ?_
      refine a_istore_2 rfl rfl rfl ?_
      refine a_iconst (v := (nI 0)) rfl rfl rfl ?_
      refine a_istore_3 rfl rfl rfl ?_
      refine a_iload_3 rfl rfl ?_
      refine a_aload_1 rfl rfl ?_
      refine a_geti rfl rfl rfl (fun _ _ _ => rfl) ?_
      refine a_as (y := nI (gN A 0)) e4 ?_
      refine a_cmpN_ge rfl rfl rfl (by omega) (by omega) (fun c_17 => False.elim (by omega)) (fun _ => ?_)
      refine a_iload_2 rfl rfl ?_
      refine a_iconst (v := (-1)) rfl rfl rfl ?_
      refine a_cmp_eq rfl rfl rfl (fun _ => ?_) (fun c_22 => by first | exact absurd rfl c_22 | exact absurd c_22 rfl)
      exact Z0
    · intro L t lt rt rp sw h gl ok H
      refine ⟨h, gl, ?_, CF_refl, fun _ _ => rfl, H⟩
      have Z := l_rwild (L := L) (t := t) (lt := lt) (rt := rt) (rp := rp) (sw := sw) (gl := gl) ok H (gN A 0 - 1) 1 (by omega) (by omega)
      have Z0 : avA 1 282 34 [.ref 81, .int (-1), .int (nI 0)] [] (sX L t lt rt rp sw h gl) (some (.int (nI (wlN (fun b => A (14 + 5 * b)) (gN A 0)))), sX L t lt rt rp sw h gl) := by
        refine a_iload_2 rfl rfl ?_
        refine a_istore_1 rfl rfl rfl ?_
        refine a_iinc_2 (v := (nI 1)) rfl rfl (by decide) rfl ?_
        refine a_goto rfl rfl ?_
        exact Z
      show avA _ 282 0 [.ref 81, mvU, mvU] [] _ _
      refine a_iconst (v := (-1)) rfl rfl rfl ?_
      refine a_istore_1 rfl rfl rfl ?_
      refine a_iconst (v := (nI 0)) rfl rfl rfl ?_
      refine a_istore_2 rfl rfl rfl ?_
      refine a_iload_2 rfl rfl ?_
      refine a_aload_0 rfl rfl ?_
      refine a_getr rfl rfl rfl (fun _ _ _ => rfl) rfl ?_
      refine a_iconst (v := (nI 0)) rfl rfl rfl ?_
      refine a_iald rfl rfl (Or.inl rfl) rfl (by omega) (by decide) ?_
      refine a_as (y := nI (gN A 0)) (by rw [H.1]; exact e0) ?_
      refine a_cmpN_ge rfl rfl rfl (by omega) (by omega) (fun c_11 => False.elim (by omega)) (fun _ => ?_)
      refine a_iload_1 rfl rfl ?_
      refine a_iconst (v := (-1)) rfl rfl rfl ?_
      refine a_cmp_eq rfl rfl rfl (fun _ => ?_) (fun c_16 => by first | exact absurd rfl c_16 | exact absurd c_16 rfl)
      exact Z0
end A4
