/-! QUESTIONS about what is now -/
/-- a text and its laws -/
def bOK (A : Nat → Int32) (TX : Nat → Txt) (by_ : Option Nat) (fl : Nat → Option (E1 → Int)) : Prop := (by_ = none ∧ fl = fun _ => none) ∨ ∃ i, i < gN A 1 ∧ by_ = some (98 + 7 * i) ∧ fl = (TX i).1
theorem bOK_rl {A : Nat → Int32} {TX : Nat → Txt} (H : okA A) : bOK A TX (rlO A) (flA TX A) := by
  unfold rlO flA
  rcases A2_cases H with q | ⟨r, hr, e, eg⟩
  · rw [if_pos q, if_pos q]; exact Or.inl ⟨rfl, rfl⟩
  · have h4 := gN_le (m := 4) H.1 (i := 1) (by omega) (by decide)
    have q : ¬ A 2 = -1 := by rw [e]; exact nI_ne_m1 (by omega)
    rw [if_neg q, if_neg q, eg]
    exact Or.inr ⟨r, hr, rfl, rfl⟩
section AS
variable {L t : Nat} {lt rt rp : Option Nat} {sw : Bool} {h : Nat → Nat → Int32} {gl : Nat → Nat → Int64} {A B : Nat → Int32} {TX : Nat → Txt} {R : Nat}
theorem bOK_lt (H : CI A B TX R t lt h) {by_ : Option Nat} {fl : Nat → Option (E1 → Int)} (b : bOK A TX by_ fl) : ltR h t by_ fl ∧ ∃ f0, LawS A h lt R f0 ∧ (lt = by_ → f0 = fl 0) := by
  obtain ⟨f0, h1, h2, h3⟩ := H.2.2.2.2.2.2
  have n := H.2.2.1
  rcases b with ⟨rfl, rfl⟩ | ⟨i, hi, rfl, rfl⟩
  · exact ⟨fun _ _ => rfl, f0, h1, h2⟩
  · exact ⟨⟨i, by omega, rfl, (H.2.2.2.2.2.1 i hi).2.2⟩, f0, h1, h3 i hi⟩
theorem LW_LIb {by_ : Option Nat} {fl : Nat → Option (E1 → Int)} {mo : Int32} {ho sz : Nat} (b : bOK A TX by_ fl) (W : LW fl A h t by_ mo R ho sz) : LI A TX R by_ h := by
  refine ⟨fl 0, LW_LS W, fun q => ?_, fun x hx q => ?_⟩
  · rcases b with ⟨rfl, rfl⟩ | ⟨i, hi, rfl, rfl⟩
    · rfl
    · exact absurd q (by simp)
  · rcases b with ⟨rfl, rfl⟩ | ⟨i, hi, rfl, rfl⟩
    · exact absurd q (by simp)
    · simp at q
      have : i = x := by omega
      rw [this]
theorem C_look (H : CI A B TX R t lt h) {by_ : Option Nat} {fl : Nat → Option (E1 → Int)} (b : bOK A TX by_ fl) (place : Int32) (ho sz : Nat) (hR : R + 1 < 67108864) (hho : ho ≤ 9999) (hsz : sz ≤ 15) (hp : place = -1 ∨ inC place) : ∃ h' R', avE 2 101 [.ref 8, mvRv by_, .int place, .int (nI ho), .int (nI sz)] (sX L t lt rt rp sw h gl) (none, sX L t by_ rt rp sw h' gl) ∧ CF [8, 9, 10] h h' ∧ LW fl A h' t by_ place R' ho sz ∧ CI A B TX R' t by_ h' ∧ R ≤ R' ∧ R' ≤ R + 1 := by
  obtain ⟨l1, f0, hS, hlt⟩ := bOK_lt H b
  obtain ⟨h', R', C, c, W, r1, r2⟩ := e_lookA (L := L) (t := t) (lt := lt) (rt := rt) (rp := rp) (sw := sw) (gl := gl) by_ place ho sz R A f0 fl hS hlt l1 (CI_fm H) hR hho hsz hp
  exact ⟨h', R', C, c, W, CI_law H rfl rfl rfl c (LW_LIb b W), r1, r2⟩
theorem A9_p (H : okA A) : A 9 = -1 ∨ inC (A 9) := by
  have b9 : -1 ≤ (A 9).toInt ∧ (A 9).toInt ≤ 29 := H.1 9 (by omega)
  by_cases c : (A 9).toInt = -1
  · exact Or.inl (Int32.toInt_inj.mp (by rw [c]; decide))
  · exact Or.inr ⟨by omega, by omega⟩
theorem C_lookNow (H : CI A B TX R t lt h) (hR : R + 1 < 67108864) : ∃ h' R', avE 3 121 [.ref 7] (sX L t lt rt rp sw h gl) (none, sX L t (rlO A) rt rp sw h' gl) ∧ CF [8, 9, 10] h h' ∧ LW (flA TX A) A h' t (rlO A) (A 9) R' (gN A 8) (szN (gN A 8)) ∧ CI A B TX R' t (rlO A) h' ∧ R ≤ R' ∧ R' ≤ R + 1 := by
  obtain ⟨e8, l8⟩ := CI_14 H
  have e0 : h 14 0 = A 9 := H.2.2.2.1.2.1.1
  obtain ⟨h', R', C, c, W, H', r1, r2⟩ := C_look (L := L) (rt := rt) (rp := rp) (sw := sw) (gl := gl) H (bOK_rl (TX := TX) H.1) (A 9) (gN A 8) (szN (gN A 8)) hR l8 (szN_le _) (A9_p H.1)
  have Cr := e_ruling (L := L) (rt := rt) (rp := rp) (sw := sw) (gl := gl) H
  refine ⟨h', R', ?_, c, W, H', r1, r2⟩
  cases hro : rlO A with
  | none =>
    rw [hro] at Cr C
    show avA _ 121 0 [.ref 7, mvU] [] _ _
    refine a_aload_0 rfl rfl ?_
    refine a_getr rfl rfl rfl (fun _ _ _ => rfl) rfl ?_
    refine a_getr rfl rfl rfl (fun _ _ _ => rfl) rfl ?_
    refine a_geti rfl rfl rfl (fun _ _ _ => rfl) ?_
    refine a_as (y := nI (gN A 8)) e8 ?_
    refine a_istore_1 rfl rfl rfl ?_
    refine a_aload_0 rfl rfl ?_
    refine a_getr rfl rfl rfl (fun _ _ _ => rfl) rfl ?_
    refine a_aload_0 rfl rfl ?_
    refine a_virtN rfl rfl (Cr) (Nat.le_of_ble_eq_true rfl) ⟨rfl, rfl, rfl, rfl⟩ rfl rfl rfl (Nat.le_of_ble_eq_true rfl) rfl rfl ?_
    refine a_aload_0 rfl rfl ?_
    refine a_getr rfl rfl rfl (fun _ _ _ => rfl) rfl ?_
    refine a_getr rfl rfl rfl (fun _ _ _ => rfl) rfl ?_
    refine a_geti rfl rfl rfl (fun _ _ _ => rfl) ?_
    refine a_as (y := A 9) e0 ?_
    refine a_iload_1 rfl rfl ?_
    refine a_iload_1 rfl rfl ?_
    refine a_statI rfl rfl (e_sizeAt (gN A 8) (by omega)) (Nat.le_of_ble_eq_true rfl) ⟨rfl, rfl, rfl⟩ rfl rfl rfl (Nat.le_of_ble_eq_true rfl) rfl ?_
    refine a_virt0 rfl rfl (C) (Nat.le_of_ble_eq_true rfl) ⟨rfl, rfl, rfl, rfl⟩ rfl rfl rfl (Nat.le_of_ble_eq_true rfl) rfl rfl ?_
    exact a_vret rfl rfl
  | some o =>
    rw [hro] at Cr C
    show avA _ 121 0 [.ref 7, mvU] [] _ _
    refine a_aload_0 rfl rfl ?_
    refine a_getr rfl rfl rfl (fun _ _ _ => rfl) rfl ?_
    refine a_getr rfl rfl rfl (fun _ _ _ => rfl) rfl ?_
    refine a_geti rfl rfl rfl (fun _ _ _ => rfl) ?_
    refine a_as (y := nI (gN A 8)) e8 ?_
    refine a_istore_1 rfl rfl rfl ?_
    refine a_aload_0 rfl rfl ?_
    refine a_getr rfl rfl rfl (fun _ _ _ => rfl) rfl ?_
    refine a_aload_0 rfl rfl ?_
    refine a_virtR rfl rfl (Cr) (Nat.le_of_ble_eq_true rfl) ⟨rfl, rfl, rfl, rfl⟩ rfl rfl rfl (Nat.le_of_ble_eq_true rfl) rfl rfl ?_
    refine a_aload_0 rfl rfl ?_
    refine a_getr rfl rfl rfl (fun _ _ _ => rfl) rfl ?_
    refine a_getr rfl rfl rfl (fun _ _ _ => rfl) rfl ?_
    refine a_geti rfl rfl rfl (fun _ _ _ => rfl) ?_
    refine a_as (y := A 9) e0 ?_
    refine a_iload_1 rfl rfl ?_
    refine a_iload_1 rfl rfl ?_
    refine a_statI rfl rfl (e_sizeAt (gN A 8) (by omega)) (Nat.le_of_ble_eq_true rfl) ⟨rfl, rfl, rfl⟩ rfl rfl rfl (Nat.le_of_ble_eq_true rfl) rfl ?_
    refine a_virt0 rfl rfl (C) (Nat.le_of_ble_eq_true rfl) ⟨rfl, rfl, rfl, rfl⟩ rfl rfl rfl (Nat.le_of_ble_eq_true rfl) rfl rfl ?_
    exact a_vret rfl rfl
theorem e_lightL {fl : Nat → Option (E1 → Int)} {mo : Int32} {ho sz : Nat} (H : LW fl A h t lt mo R ho sz) (c : Int32) : ∃ h', avE 2 106 [.ref 8, .int c] (sX L t lt rt rp sw h gl) (some (.int (nI (ltC (fl 0) A ho sz mo c))), sX L t lt rt rp sw h' gl) ∧ CF [34, 35, 39] h h' ∧ LW fl A h' t lt mo R ho sz := by
  obtain ⟨h', C, c1, f1⟩ := e_lightAt (L := L) (t := t) (lt := lt) (rt := rt) (rp := rp) (sw := sw) (gl := gl) fl A mo c R ho sz H
  exact ⟨h', C, c1, LW_cf rfl (fun p hp => by simp; omega) H c1 f1⟩
theorem LW_op {fl : Nat → Option (E1 → Int)} {mo : Int32} {ho sz : Nat} (H : LW fl A h t lt mo R ho sz) : h 9 0 = bsI 30 (frA A) := H.1.2.2.2.2.2.2.2.2.2.1.1
theorem RI_lay (ok : okA A) (H : RI A B TX h) : ∃ h' gl', avE 6 253 [.ref 81] (sX L t lt rt rp sw h gl) (none, sX L t lt rt rp sw h' gl') ∧ CF [87, 88, 90, 91] h h' ∧ (∀ k, k < 30 → h' 88 k = nI (ltV (flA TX A 0) A (gN A 8) (szN (gN A 8)) (A 9) k)) ∧ (∀ k, k < 30 → h' 91 k = frF (frA A) (A 9) k) ∧ RI A B TX h' := by
  have l8 := gN_le (m := 9999) ok.1 (i := 8) (by omega) (by decide)
  obtain ⟨h', gl', C, c, k1, k2⟩ := r_layNow (L := L) (t := t) (lt := lt) (rt := rt) (rp := rp) (sw := sw) (gl := gl) (gN A 8) (flA TX A 0) l8 (by rw [H.1]; exact gN_eq ok.1 (by omega) (by decide)) (by rw [H.1]; exact rOK_clOK ok.1) (RI_txR H ok 0 (by omega))
  rw [H.1] at k1 k2
  exact ⟨h', gl', C, c, k1, k2, RI_cf H rfl c⟩
end AS
section A2
variable {A B : Nat → Int32} {TX : Nat → Txt}
/-! of -/
theorem p_of (hA : okA A) (b w : Int32) : ∃ r, opP 1 5 120 [.ref 7, .int b, .int w] 7 276 [.ref 81, .int b, .int w] TX A B r A B := by
  have h5 := gN_le (m := 5) hA.1 (i := 0) (by omega) (by decide)
  have l8 := gN_le (m := 9999) hA.1 (i := 8) (by omega) (by decide)
  have e0 : A 0 = nI (gN A 0) := gN_eq hA.1 (by omega) (by decide)
  by_cases hb : 0 ≤ b.toInt ∧ b.toInt < gN A 0
  · by_cases hw : 0 ≤ w.toInt ∧ w.toInt ≤ 3
    · obtain ⟨n, hn, rfl, _⟩ := cell_of (m := gN A 0) hb.1 hb.2
      obtain ⟨q, hq, rfl, _⟩ := cell_of (x := w) (m := 4) hw.1 (by omega)
      have bm := hA.1 (14 + 5 * n) (by omega)
      have ba := hA.1 (13 + 5 * n) (by omega)
      unfold inB at bm ba
      rw [bd_mood (by omega)] at bm
      rw [bd_at (by omega)] at ba
      dsimp only at bm ba
      match q, hq with
      | 0, _ =>
        refine ⟨A (13 + 5 * n), ?_, ?_, hA, rfl⟩
        · intro L t lt rt rp sw h gl R H hR
          obtain ⟨e4, _⟩ := CI_e4 H
          refine ⟨h, lt, R, sw, ?_, CF_refl, H, by omega, by omega⟩
          show avA _ 120 0 [.ref 7, .int (nI (n)), .int (nI 0)] [] _ _
          refine a_aload_0 rfl rfl ?_
          refine a_iload_1 rfl rfl ?_
          refine a_virtI rfl rfl (e_isBeast (gN A 0) h5 e4 (nI n)) (Nat.le_of_ble_eq_true rfl) ⟨rfl, rfl, rfl, rfl⟩ rfl rfl rfl (Nat.le_of_ble_eq_true rfl) rfl rfl ?_
          refine a_ifb_ne rfl rfl rfl (fun _ => ?_) (fun c_5 => by first | exact absurd hb c_5 | exact absurd c_5 hb)
          refine a_iload_2 rfl rfl ?_
          refine a_tabIn rfl (by decide) rfl rfl ?_
          refine a_aload_0 rfl rfl ?_
          refine a_getr rfl rfl rfl (fun _ _ _ => rfl) rfl ?_
          refine a_getr rfl rfl rfl (fun _ _ _ => rfl) rfl ?_
          refine a_getr rfl rfl rfl (fun _ _ _ => rfl) rfl ?_
          refine a_iload_1 rfl rfl ?_
          refine a_iald rfl rfl (Or.inl rfl) rfl (by omega) (by decide) ?_
          refine a_as (y := A (13 + 5 * n)) (H.2.2.2.1.2.1.2.2.2.2.2 n hn).1 ?_
          exact a_iret rfl rfl
        · intro L t lt rt rp sw h gl ok H
          obtain ⟨h', gl', C, c, k1, k2, H'⟩ := RI_lay (L := L) (t := t) (lt := lt) (rt := rt) (rp := rp) (sw := sw) (gl := gl) ok H
          refine ⟨h', gl', ?_, CF_rf rfl c, fun j hj => by rw [c 81 rfl], H'⟩
          show avA _ 276 0 [.ref 81, .int (nI (n)), .int (nI 0)] [] _ _
          refine a_aload_0 rfl rfl ?_
          refine a_iload_1 rfl rfl ?_
          refine a_virtI rfl rfl (r_isBeast (gN A 0) h5 (by rw [H.1]; exact e0) (nI n)) (Nat.le_of_ble_eq_true rfl) ⟨rfl, rfl, rfl, rfl⟩ rfl rfl rfl (Nat.le_of_ble_eq_true rfl) rfl rfl ?_
          refine a_ifb_eq rfl rfl rfl (fun c_5 => by first | exact absurd c_5 (not_not_intro hb) | exact absurd (not_not_intro hb) c_5) (fun _ => ?_)
          refine a_iload_2 rfl rfl ?_
          refine a_iconst (v := (nI 0)) rfl rfl rfl ?_
          refine a_iconst (v := (nI 3)) rfl rfl rfl ?_
          refine a_statI rfl rfl (r_isIn0 (nI 0) 0 3 (by omega) (by omega)) (Nat.le_of_ble_eq_true rfl) ⟨rfl, rfl, rfl⟩ rfl rfl rfl (Nat.le_of_ble_eq_true rfl) rfl ?_
          refine a_ifb_ne rfl rfl rfl (fun _ => ?_) (fun c_14 => by first | exact absurd hw c_14 | exact absurd c_14 hw)
          refine a_aload_0 rfl rfl ?_
          refine a_virt0 rfl rfl (C) (Nat.le_of_ble_eq_true rfl) ⟨rfl, rfl, rfl, rfl⟩ rfl rfl rfl (Nat.le_of_ble_eq_true rfl) rfl rfl ?_
          refine a_iload_2 rfl rfl ?_
          refine a_iconst (v := (nI 2)) rfl rfl rfl ?_
          refine a_cmpN_ne rfl rfl rfl (by omega) (by omega) (fun _ => ?_) (fun c_25 => absurd c_25 (by decide))
          refine a_aload_0 rfl rfl ?_
          refine a_iload_1 rfl rfl ?_
          refine a_iload_2 rfl rfl ?_
          refine a_iconst (v := (nI 3)) rfl rfl rfl ?_
          refine a_cmpN_ne rfl rfl rfl (by omega) (by omega) (fun _ => ?_) (fun c_40 => absurd c_40 (by decide))
          refine a_iload_2 rfl rfl ?_
          refine a_virtI rfl rfl (r_get n _ (by omega) (by omega)) (Nat.le_of_ble_eq_true rfl) ⟨rfl, rfl, rfl, rfl⟩ rfl rfl rfl (Nat.le_of_ble_eq_true rfl) rfl rfl ?_
          refine a_as (y := A (13 + 5 * n)) (by rw [H'.1]; exact congrArg A (by omega)) ?_
          exact a_iret rfl rfl
      | 1, _ =>
        refine ⟨A (14 + 5 * n), ?_, ?_, hA, rfl⟩
        · intro L t lt rt rp sw h gl R H hR
          obtain ⟨e4, _⟩ := CI_e4 H
          refine ⟨h, lt, R, sw, ?_, CF_refl, H, by omega, by omega⟩
          show avA _ 120 0 [.ref 7, .int (nI (n)), .int (nI 1)] [] _ _
          refine a_aload_0 rfl rfl ?_
          refine a_iload_1 rfl rfl ?_
          refine a_virtI rfl rfl (e_isBeast (gN A 0) h5 e4 (nI n)) (Nat.le_of_ble_eq_true rfl) ⟨rfl, rfl, rfl, rfl⟩ rfl rfl rfl (Nat.le_of_ble_eq_true rfl) rfl rfl ?_
          refine a_ifb_ne rfl rfl rfl (fun _ => ?_) (fun c_5 => by first | exact absurd hb c_5 | exact absurd c_5 hb)
          refine a_iload_2 rfl rfl ?_
          refine a_tabIn rfl (by decide) rfl rfl ?_
          refine a_aload_0 rfl rfl ?_
          refine a_getr rfl rfl rfl (fun _ _ _ => rfl) rfl ?_
          refine a_getr rfl rfl rfl (fun _ _ _ => rfl) rfl ?_
          refine a_getr rfl rfl rfl (fun _ _ _ => rfl) rfl ?_
          refine a_iload_1 rfl rfl ?_
          refine a_iald rfl rfl (Or.inl rfl) rfl (by omega) (by decide) ?_
          refine a_as (y := A (14 + 5 * n)) (H.2.2.2.1.2.1.2.2.2.2.2 n hn).2.1 ?_
          exact a_iret rfl rfl
        · intro L t lt rt rp sw h gl ok H
          obtain ⟨h', gl', C, c, k1, k2, H'⟩ := RI_lay (L := L) (t := t) (lt := lt) (rt := rt) (rp := rp) (sw := sw) (gl := gl) ok H
          refine ⟨h', gl', ?_, CF_rf rfl c, fun j hj => by rw [c 81 rfl], H'⟩
          show avA _ 276 0 [.ref 81, .int (nI (n)), .int (nI 1)] [] _ _
          refine a_aload_0 rfl rfl ?_
          refine a_iload_1 rfl rfl ?_
          refine a_virtI rfl rfl (r_isBeast (gN A 0) h5 (by rw [H.1]; exact e0) (nI n)) (Nat.le_of_ble_eq_true rfl) ⟨rfl, rfl, rfl, rfl⟩ rfl rfl rfl (Nat.le_of_ble_eq_true rfl) rfl rfl ?_
          refine a_ifb_eq rfl rfl rfl (fun c_5 => by first | exact absurd c_5 (not_not_intro hb) | exact absurd (not_not_intro hb) c_5) (fun _ => ?_)
          refine a_iload_2 rfl rfl ?_
          refine a_iconst (v := (nI 0)) rfl rfl rfl ?_
          refine a_iconst (v := (nI 3)) rfl rfl rfl ?_
          refine a_statI rfl rfl (r_isIn0 (nI 1) 0 3 (by omega) (by omega)) (Nat.le_of_ble_eq_true rfl) ⟨rfl, rfl, rfl⟩ rfl rfl rfl (Nat.le_of_ble_eq_true rfl) rfl ?_
          refine a_ifb_ne rfl rfl rfl (fun _ => ?_) (fun c_14 => by first | exact absurd hw c_14 | exact absurd c_14 hw)
          refine a_aload_0 rfl rfl ?_
          refine a_virt0 rfl rfl (C) (Nat.le_of_ble_eq_true rfl) ⟨rfl, rfl, rfl, rfl⟩ rfl rfl rfl (Nat.le_of_ble_eq_true rfl) rfl rfl ?_
          refine a_iload_2 rfl rfl ?_
          refine a_iconst (v := (nI 2)) rfl rfl rfl ?_
          refine a_cmpN_ne rfl rfl rfl (by omega) (by omega) (fun _ => ?_) (fun c_25 => absurd c_25 (by decide))
          refine a_aload_0 rfl rfl ?_
          refine a_iload_1 rfl rfl ?_
          refine a_iload_2 rfl rfl ?_
          refine a_iconst (v := (nI 3)) rfl rfl rfl ?_
          refine a_cmpN_ne rfl rfl rfl (by omega) (by omega) (fun _ => ?_) (fun c_40 => absurd c_40 (by decide))
          refine a_iload_2 rfl rfl ?_
          refine a_virtI rfl rfl (r_get n _ (by omega) (by omega)) (Nat.le_of_ble_eq_true rfl) ⟨rfl, rfl, rfl, rfl⟩ rfl rfl rfl (Nat.le_of_ble_eq_true rfl) rfl rfl ?_
          refine a_as (y := A (14 + 5 * n)) (by rw [H'.1]; exact congrArg A (by omega)) ?_
          exact a_iret rfl rfl
      | 3, _ =>
        refine ⟨A (15 + 5 * n), ?_, ?_, hA, rfl⟩
        · intro L t lt rt rp sw h gl R H hR
          obtain ⟨e4, _⟩ := CI_e4 H
          refine ⟨h, lt, R, sw, ?_, CF_refl, H, by omega, by omega⟩
          show avA _ 120 0 [.ref 7, .int (nI (n)), .int (nI 3)] [] _ _
          refine a_aload_0 rfl rfl ?_
          refine a_iload_1 rfl rfl ?_
          refine a_virtI rfl rfl (e_isBeast (gN A 0) h5 e4 (nI n)) (Nat.le_of_ble_eq_true rfl) ⟨rfl, rfl, rfl, rfl⟩ rfl rfl rfl (Nat.le_of_ble_eq_true rfl) rfl rfl ?_
          refine a_ifb_ne rfl rfl rfl (fun _ => ?_) (fun c_5 => by first | exact absurd hb c_5 | exact absurd c_5 hb)
          refine a_iload_2 rfl rfl ?_
          refine a_tabIn rfl (by decide) rfl rfl ?_
          refine a_aload_0 rfl rfl ?_
          refine a_getr rfl rfl rfl (fun _ _ _ => rfl) rfl ?_
          refine a_getr rfl rfl rfl (fun _ _ _ => rfl) rfl ?_
          refine a_getr rfl rfl rfl (fun _ _ _ => rfl) rfl ?_
          refine a_iload_1 rfl rfl ?_
          refine a_iald rfl rfl (Or.inl rfl) rfl (by omega) (by decide) ?_
          refine a_as (y := A (15 + 5 * n)) (H.2.2.2.1.2.1.2.2.2.2.2 n hn).2.2 ?_
          exact a_iret rfl rfl
        · intro L t lt rt rp sw h gl ok H
          obtain ⟨h', gl', C, c, k1, k2, H'⟩ := RI_lay (L := L) (t := t) (lt := lt) (rt := rt) (rp := rp) (sw := sw) (gl := gl) ok H
          refine ⟨h', gl', ?_, CF_rf rfl c, fun j hj => by rw [c 81 rfl], H'⟩
          show avA _ 276 0 [.ref 81, .int (nI (n)), .int (nI 3)] [] _ _
          refine a_aload_0 rfl rfl ?_
          refine a_iload_1 rfl rfl ?_
          refine a_virtI rfl rfl (r_isBeast (gN A 0) h5 (by rw [H.1]; exact e0) (nI n)) (Nat.le_of_ble_eq_true rfl) ⟨rfl, rfl, rfl, rfl⟩ rfl rfl rfl (Nat.le_of_ble_eq_true rfl) rfl rfl ?_
          refine a_ifb_eq rfl rfl rfl (fun c_5 => by first | exact absurd c_5 (not_not_intro hb) | exact absurd (not_not_intro hb) c_5) (fun _ => ?_)
          refine a_iload_2 rfl rfl ?_
          refine a_iconst (v := (nI 0)) rfl rfl rfl ?_
          refine a_iconst (v := (nI 3)) rfl rfl rfl ?_
          refine a_statI rfl rfl (r_isIn0 (nI 3) 0 3 (by omega) (by omega)) (Nat.le_of_ble_eq_true rfl) ⟨rfl, rfl, rfl⟩ rfl rfl rfl (Nat.le_of_ble_eq_true rfl) rfl ?_
          refine a_ifb_ne rfl rfl rfl (fun _ => ?_) (fun c_14 => by first | exact absurd hw c_14 | exact absurd c_14 hw)
          refine a_aload_0 rfl rfl ?_
          refine a_virt0 rfl rfl (C) (Nat.le_of_ble_eq_true rfl) ⟨rfl, rfl, rfl, rfl⟩ rfl rfl rfl (Nat.le_of_ble_eq_true rfl) rfl rfl ?_
          refine a_iload_2 rfl rfl ?_
          refine a_iconst (v := (nI 2)) rfl rfl rfl ?_
          refine a_cmpN_ne rfl rfl rfl (by omega) (by omega) (fun _ => ?_) (fun c_25 => absurd c_25 (by decide))
          refine a_aload_0 rfl rfl ?_
          refine a_iload_1 rfl rfl ?_
          refine a_iload_2 rfl rfl ?_
          refine a_iconst (v := (nI 3)) rfl rfl rfl ?_
          refine a_cmpN_ne rfl rfl rfl (by omega) (by omega) (fun c_40 => absurd c_40 (by decide)) (fun _ => ?_)
          refine a_iconst (v := (nI 2)) rfl rfl rfl ?_
          refine a_goto rfl rfl ?_
          refine a_virtI rfl rfl (r_get n _ (by omega) (by omega)) (Nat.le_of_ble_eq_true rfl) ⟨rfl, rfl, rfl, rfl⟩ rfl rfl rfl (Nat.le_of_ble_eq_true rfl) rfl rfl ?_
          refine a_as (y := A (15 + 5 * n)) (by rw [H'.1]; exact congrArg A (by omega)) ?_
          exact a_iret rfl rfl
      | 2, _ =>
        refine ⟨nI (kcV (flA TX A) A (gN A 8) (szN (gN A 8)) (A 9) (A (14 + 5 * n)) (A (13 + 5 * n)) n), ?_, ?_, hA, rfl⟩
        · intro L t lt rt rp sw h gl R H hR
          obtain ⟨e4, _⟩ := CI_e4 H
          obtain ⟨h1, R1, C1, c1, W1, H1, r1, r2⟩ := C_lookNow (L := L) (rt := rt) (rp := rp) (sw := sw) (gl := gl) H hR
          obtain ⟨z1, z2, z3⟩ := H1.2.2.2.1.2.1.2.2.2.2.2 n hn
          have z1' : h1 15 n = A (13 + 5 * n) := z1
          have z2' : h1 16 n = A (14 + 5 * n) := z2
          obtain ⟨h2, C2, c2, f2⟩ := e_kicksOf_14 (L := L) (t := t) (lt := rlO A) (rt := rt) (rp := rp) (sw := sw) (gl := gl) (h := h1) (flA TX A) A (A 9) R1 (gN A 8) (szN (gN A 8)) n (by omega) W1 (by rw [z2']; omega) (by rw [z1']; omega)
          rw [z1', z2'] at C2
          have W2 := LW_cf rfl (fun p hp => by simp; omega) W1 c2 f2
          refine ⟨h2, rlO A, R1, sw, ?_, CF_trans (CF_cl rfl c1) (CF_cl rfl c2), CI_law H1 rfl rfl rfl c2 (LW_LI H1 W2), r1, r2⟩
          show avA _ 120 0 [.ref 7, .int (nI (n)), .int (nI 2)] [] _ _
          refine a_aload_0 rfl rfl ?_
          refine a_iload_1 rfl rfl ?_
          refine a_virtI rfl rfl (e_isBeast (gN A 0) h5 e4 (nI n)) (Nat.le_of_ble_eq_true rfl) ⟨rfl, rfl, rfl, rfl⟩ rfl rfl rfl (Nat.le_of_ble_eq_true rfl) rfl rfl ?_
          refine a_ifb_ne rfl rfl rfl (fun _ => ?_) (fun c_5 => by first | exact absurd hb c_5 | exact absurd c_5 hb)
          refine a_iload_2 rfl rfl ?_
          refine a_tabIn rfl (by decide) rfl rfl ?_
          refine a_aload_0 rfl rfl ?_
          refine a_virt0 rfl rfl (C1) (Nat.le_of_ble_eq_true rfl) ⟨rfl, rfl, rfl, rfl⟩ rfl rfl rfl (Nat.le_of_ble_eq_true rfl) rfl rfl ?_
          refine a_aload_0 rfl rfl ?_
          refine a_getr rfl rfl rfl (fun _ _ _ => rfl) rfl ?_
          refine a_aload_0 rfl rfl ?_
          refine a_getr rfl rfl rfl (fun _ _ _ => rfl) rfl ?_
          refine a_getr rfl rfl rfl (fun _ _ _ => rfl) rfl ?_
          refine a_iload_1 rfl rfl ?_
          refine a_virtI rfl rfl (C2) (Nat.le_of_ble_eq_true rfl) ⟨rfl, rfl, rfl, rfl⟩ rfl rfl rfl (Nat.le_of_ble_eq_true rfl) rfl rfl ?_
          exact a_iret rfl rfl
        · intro L t lt rt rp sw h gl ok H
          obtain ⟨h', gl', C, c, k1, k2, H'⟩ := RI_lay (L := L) (t := t) (lt := lt) (rt := rt) (rp := rp) (sw := sw) (gl := gl) ok H
          obtain ⟨h2, gl2, C2, c2⟩ := r_kicksOf (L := L) (t := t) (lt := lt) (rt := rt) (rp := rp) (sw := sw) (h := h') (gl := gl') A n (gN A 8) (A 9) (flA TX A) (by omega) l8 (by rw [H'.1]; exact gN_eq ok.1 (by omega) (by decide)) (by rw [H'.1]; exact bm) (by rw [H'.1]; exact ⟨by omega, by omega⟩) k1 (RI_txR H' ok 2 (by omega))
          rw [H'.1] at C2
          refine ⟨h2, gl2, ?_, CF_trans (CF_rf rfl c) (CF_rf rfl c2), fun j hj => by rw [c2 81 rfl, c 81 rfl], RI_cf H' rfl c2⟩
          show avA _ 276 0 [.ref 81, .int (nI (n)), .int (nI 2)] [] _ _
          refine a_aload_0 rfl rfl ?_
          refine a_iload_1 rfl rfl ?_
          refine a_virtI rfl rfl (r_isBeast (gN A 0) h5 (by rw [H.1]; exact e0) (nI n)) (Nat.le_of_ble_eq_true rfl) ⟨rfl, rfl, rfl, rfl⟩ rfl rfl rfl (Nat.le_of_ble_eq_true rfl) rfl rfl ?_
          refine a_ifb_eq rfl rfl rfl (fun c_5 => by first | exact absurd c_5 (not_not_intro hb) | exact absurd (not_not_intro hb) c_5) (fun _ => ?_)
          refine a_iload_2 rfl rfl ?_
          refine a_iconst (v := (nI 0)) rfl rfl rfl ?_
          refine a_iconst (v := (nI 3)) rfl rfl rfl ?_
          refine a_statI rfl rfl (r_isIn0 (nI 2) 0 3 (by omega) (by omega)) (Nat.le_of_ble_eq_true rfl) ⟨rfl, rfl, rfl⟩ rfl rfl rfl (Nat.le_of_ble_eq_true rfl) rfl ?_
          refine a_ifb_ne rfl rfl rfl (fun _ => ?_) (fun c_14 => by first | exact absurd hw c_14 | exact absurd c_14 hw)
          refine a_aload_0 rfl rfl ?_
          refine a_virt0 rfl rfl (C) (Nat.le_of_ble_eq_true rfl) ⟨rfl, rfl, rfl, rfl⟩ rfl rfl rfl (Nat.le_of_ble_eq_true rfl) rfl rfl ?_
          refine a_iload_2 rfl rfl ?_
          refine a_iconst (v := (nI 2)) rfl rfl rfl ?_
          refine a_cmpN_ne rfl rfl rfl (by omega) (by omega) (fun c_25 => absurd c_25 (by decide)) (fun _ => ?_)
          refine a_aload_0 rfl rfl ?_
          refine a_iload_1 rfl rfl ?_
          refine a_virtI rfl rfl (C2) (Nat.le_of_ble_eq_true rfl) ⟨rfl, rfl, rfl, rfl⟩ rfl rfl rfl (Nat.le_of_ble_eq_true rfl) rfl rfl ?_
          refine a_goto rfl rfl ?_
          exact a_iret rfl rfl
    · refine ⟨-1, ?_, ?_, hA, rfl⟩
      · intro L t lt rt rp sw h gl R H hR
        obtain ⟨e4, _⟩ := CI_e4 H
        refine ⟨h, lt, R, sw, ?_, CF_refl, H, by omega, by omega⟩
        show avA _ 120 0 [.ref 7, .int (b), .int (w)] [] _ _
        refine a_aload_0 rfl rfl ?_
        refine a_iload_1 rfl rfl ?_
        refine a_virtI rfl rfl (e_isBeast (gN A 0) h5 e4 b) (Nat.le_of_ble_eq_true rfl) ⟨rfl, rfl, rfl, rfl⟩ rfl rfl rfl (Nat.le_of_ble_eq_true rfl) rfl rfl ?_
        refine a_ifb_ne rfl rfl rfl (fun _ => ?_) (fun c_5 => by first | exact absurd hb c_5 | exact absurd c_5 hb)
        refine a_iload_2 rfl rfl ?_
        refine a_tabOut rfl (by omega) rfl ?_
        refine a_iconst (v := (-1)) rfl rfl rfl ?_
        exact a_iret rfl rfl
      · intro L t lt rt rp sw h gl ok H
        refine ⟨h, gl, ?_, CF_refl, fun _ _ => rfl, H⟩
        show avA _ 276 0 [.ref 81, .int (b), .int (w)] [] _ _
        refine a_aload_0 rfl rfl ?_
        refine a_iload_1 rfl rfl ?_
        refine a_virtI rfl rfl (r_isBeast (gN A 0) h5 (by rw [H.1]; exact e0) b) (Nat.le_of_ble_eq_true rfl) ⟨rfl, rfl, rfl, rfl⟩ rfl rfl rfl (Nat.le_of_ble_eq_true rfl) rfl rfl ?_
        refine a_ifb_eq rfl rfl rfl (fun c_5 => ?_) (fun c_5 => ?_)
        · refine a_iconst (v := (-1)) rfl rfl rfl ?_
          exact a_iret rfl rfl
        · refine a_iload_2 rfl rfl ?_
          refine a_iconst (v := (nI 0)) rfl rfl rfl ?_
          refine a_iconst (v := (nI 3)) rfl rfl rfl ?_
          refine a_statI rfl rfl (r_isIn0 w 0 3 (by omega) (by omega)) (Nat.le_of_ble_eq_true rfl) ⟨rfl, rfl, rfl⟩ rfl rfl rfl (Nat.le_of_ble_eq_true rfl) rfl ?_
          refine a_ifb_ne rfl rfl rfl (fun c_14 => by first | exact absurd c_14 hw | exact absurd hw c_14) (fun _ => ?_)
          refine a_iconst (v := (-1)) rfl rfl rfl ?_
          exact a_iret rfl rfl
  · refine ⟨-1, ?_, ?_, hA, rfl⟩
    · intro L t lt rt rp sw h gl R H hR
      obtain ⟨e4, _⟩ := CI_e4 H
      refine ⟨h, lt, R, sw, ?_, CF_refl, H, by omega, by omega⟩
      show avA _ 120 0 [.ref 7, .int (b), .int (w)] [] _ _
      refine a_aload_0 rfl rfl ?_
      refine a_iload_1 rfl rfl ?_
      refine a_virtI rfl rfl (e_isBeast (gN A 0) h5 e4 b) (Nat.le_of_ble_eq_true rfl) ⟨rfl, rfl, rfl, rfl⟩ rfl rfl rfl (Nat.le_of_ble_eq_true rfl) rfl rfl ?_
      refine a_ifb_ne rfl rfl rfl (fun c_5 => by first | exact absurd c_5 hb | exact absurd hb c_5) (fun _ => ?_)
      refine a_iconst (v := (-1)) rfl rfl rfl ?_
      exact a_iret rfl rfl
    · intro L t lt rt rp sw h gl ok H
      refine ⟨h, gl, ?_, CF_refl, fun _ _ => rfl, H⟩
      show avA _ 276 0 [.ref 81, .int (b), .int (w)] [] _ _
      refine a_aload_0 rfl rfl ?_
      refine a_iload_1 rfl rfl ?_
      refine a_virtI rfl rfl (r_isBeast (gN A 0) h5 (by rw [H.1]; exact e0) b) (Nat.le_of_ble_eq_true rfl) ⟨rfl, rfl, rfl, rfl⟩ rfl rfl rfl (Nat.le_of_ble_eq_true rfl) rfl rfl ?_
      refine a_ifb_eq rfl rfl rfl (fun _ => ?_) (fun c_5 => by first | exact absurd hb c_5 | exact absurd c_5 hb)
      refine a_iconst (v := (-1)) rfl rfl rfl ?_
      exact a_iret rfl rfl
/-! ofCell -/
theorem p_ofCell (hA : okA A) (c w : Int32) : ∃ r, opP 1 4 122 [.ref 7, .int c, .int w] 7 277 [.ref 81, .int c, .int w] TX A B r A B := by
  have h5 := gN_le (m := 5) hA.1 (i := 0) (by omega) (by decide)
  have e0 : A 0 = nI (gN A 0) := gN_eq hA.1 (by omega) (by decide)
  by_cases hc : inC c
  · obtain ⟨n, hn, rfl⟩ := inC_of hc
    have rr : ∀ (L t : Nat) (lt rt rp : Option Nat) (sw : Bool) (h : Nat → Nat → Int32) (gl : Nat → Nat → Int64) (v : Int32), okA A → RI A B TX h → (∀ (h' : Nat → Nat → Int32) (gl' : Nat → Nat → Int64), RI A B TX h' → (∀ k, k < 30 → h' 88 k = nI (ltV (flA TX A 0) A (gN A 8) (szN (gN A 8)) (A 9) k)) → (∀ k, k < 30 → h' 91 k = frF (frA A) (A 9) k) → avA 7 277 14 [.ref 81, .int (nI n), .int w] [] (sX L t lt rt rp sw h' gl') (some (.int v), sX L t lt rt rp sw h' gl')) → ∃ h' gl', avE 7 277 [.ref 81, .int (nI n), .int w] (sX L t lt rt rp sw h gl) (some (.int v), sX L t lt rt rp sw h' gl') ∧ CF rfS h h' ∧ (∀ j, j ≠ 26 → h' 81 j = h 81 j) ∧ RI A B TX h' := by
      intro L t lt rt rp sw h gl v ok H Z
      obtain ⟨h', gl', C, c, k1, k2, H'⟩ := RI_lay (L := L) (t := t) (lt := lt) (rt := rt) (rp := rp) (sw := sw) (gl := gl) ok H
      refine ⟨h', gl', ?_, CF_rf rfl c, fun j hj => by rw [c 81 rfl], H'⟩
      show avA _ 277 0 [.ref 81, .int (nI (n)), .int (w)] [] _ _
      refine a_iload_1 rfl rfl ?_
      refine a_statI rfl rfl (r_isCell (nI n)) (Nat.le_of_ble_eq_true rfl) ⟨rfl, rfl, rfl⟩ rfl rfl rfl (Nat.le_of_ble_eq_true rfl) rfl ?_
      refine a_ifb_ne rfl rfl rfl (fun _ => ?_) (fun c_4 => by first | exact absurd hc c_4 | exact absurd c_4 hc)
      refine a_aload_0 rfl rfl ?_
      refine a_virt0 rfl rfl (C) (Nat.le_of_ble_eq_true rfl) ⟨rfl, rfl, rfl, rfl⟩ rfl rfl rfl (Nat.le_of_ble_eq_true rfl) rfl rfl ?_
      exact Z h' gl' H' k1 k2
    by_cases hw : 0 ≤ w.toInt ∧ w.toInt ≤ 4
    · obtain ⟨q, hq, rfl, _⟩ := cell_of (x := w) (m := 5) hw.1 (by omega)
      match q, hq with
      | 0, _ =>
        refine ⟨A (38 + n), ?_, ?_, hA, rfl⟩
        · intro L t lt rt rp sw h gl R H hR
          refine ⟨h, lt, R, sw, ?_, CF_refl, H, by omega, by omega⟩
          show avA _ 122 0 [.ref 7, .int (nI (n)), .int (nI 0)] [] _ _
          refine a_iload_1 rfl rfl ?_
          refine a_statI rfl rfl (e_isCell (nI n)) (Nat.le_of_ble_eq_true rfl) ⟨rfl, rfl, rfl⟩ rfl rfl rfl (Nat.le_of_ble_eq_true rfl) rfl ?_
          refine a_ifb_ne rfl rfl rfl (fun _ => ?_) (fun c_4 => by first | exact absurd hc c_4 | exact absurd c_4 hc)
          refine a_iload_2 rfl rfl ?_
          refine a_tabIn rfl (by decide) rfl rfl ?_
          refine a_aload_0 rfl rfl ?_
          refine a_getr rfl rfl rfl (fun _ _ _ => rfl) rfl ?_
          refine a_getr rfl rfl rfl (fun _ _ _ => rfl) rfl ?_
          refine a_iload_1 rfl rfl ?_
          refine a_iald rfl rfl (Or.inl rfl) rfl (by omega) (by decide) ?_
          refine a_as (y := A (38 + n)) (H.2.2.2.1.1 n hn).1 ?_
          exact a_iret rfl rfl
        · intro L t lt rt rp sw h gl ok H
          refine rr L t lt rt rp sw h gl _ ok H (fun h' gl' H' k1 k2 => ?_)
          refine a_iload_2 rfl rfl ?_
          refine a_tabIn rfl (by decide) rfl rfl ?_
          refine a_aload_0 rfl rfl ?_
          refine a_getr rfl rfl rfl (fun _ _ _ => rfl) rfl ?_
          refine a_bipush (v := (nI 38)) rfl rfl rfl ?_
          refine a_iload_1 rfl rfl ?_
          refine a_iaddN rfl rfl ?_
          refine a_iald rfl rfl (Or.inl rfl) rfl (by omega) (by decide) ?_
          refine a_as (y := A (38 + n)) (by rw [H'.1]) ?_
          exact a_iret rfl rfl
      | 1, _ =>
        refine ⟨A (68 + n), ?_, ?_, hA, rfl⟩
        · intro L t lt rt rp sw h gl R H hR
          refine ⟨h, lt, R, sw, ?_, CF_refl, H, by omega, by omega⟩
          show avA _ 122 0 [.ref 7, .int (nI (n)), .int (nI 1)] [] _ _
          refine a_iload_1 rfl rfl ?_
          refine a_statI rfl rfl (e_isCell (nI n)) (Nat.le_of_ble_eq_true rfl) ⟨rfl, rfl, rfl⟩ rfl rfl rfl (Nat.le_of_ble_eq_true rfl) rfl ?_
          refine a_ifb_ne rfl rfl rfl (fun _ => ?_) (fun c_4 => by first | exact absurd hc c_4 | exact absurd c_4 hc)
          refine a_iload_2 rfl rfl ?_
          refine a_tabIn rfl (by decide) rfl rfl ?_
          refine a_aload_0 rfl rfl ?_
          refine a_getr rfl rfl rfl (fun _ _ _ => rfl) rfl ?_
          refine a_getr rfl rfl rfl (fun _ _ _ => rfl) rfl ?_
          refine a_iload_1 rfl rfl ?_
          refine a_iald rfl rfl (Or.inl rfl) rfl (by omega) (by decide) ?_
          refine a_as (y := A (68 + n)) (H.2.2.2.1.1 n hn).2 ?_
          exact a_iret rfl rfl
        · intro L t lt rt rp sw h gl ok H
          refine rr L t lt rt rp sw h gl _ ok H (fun h' gl' H' k1 k2 => ?_)
          refine a_iload_2 rfl rfl ?_
          refine a_tabIn rfl (by decide) rfl rfl ?_
          refine a_aload_0 rfl rfl ?_
          refine a_getr rfl rfl rfl (fun _ _ _ => rfl) rfl ?_
          refine a_bipush (v := (nI 68)) rfl rfl rfl ?_
          refine a_iload_1 rfl rfl ?_
          refine a_iaddN rfl rfl ?_
          refine a_iald rfl rfl (Or.inl rfl) rfl (by omega) (by decide) ?_
          refine a_as (y := A (68 + n)) (by rw [H'.1]) ?_
          exact a_iret rfl rfl
      | 2, _ =>
        refine ⟨nI (ltV (flA TX A 0) A (gN A 8) (szN (gN A 8)) (A 9) n), ?_, ?_, hA, rfl⟩
        · intro L t lt rt rp sw h gl R H hR
          obtain ⟨h1, R1, C1, c1, W1, H1, r1, r2⟩ := C_lookNow (L := L) (rt := rt) (rp := rp) (sw := sw) (gl := gl) H hR
          obtain ⟨h2, C2, c2, W2⟩ := e_lightL (L := L) (rt := rt) (rp := rp) (sw := sw) (gl := gl) W1 (nI n)
          rw [ltC_N _ _ _ _ _ hn] at C2
          refine ⟨h2, rlO A, R1, sw, ?_, CF_trans (CF_cl rfl c1) (CF_cl rfl c2), CI_law H1 rfl rfl rfl c2 (LW_LI H1 W2), r1, r2⟩
          show avA _ 122 0 [.ref 7, .int (nI (n)), .int (nI 2)] [] _ _
          refine a_iload_1 rfl rfl ?_
          refine a_statI rfl rfl (e_isCell (nI n)) (Nat.le_of_ble_eq_true rfl) ⟨rfl, rfl, rfl⟩ rfl rfl rfl (Nat.le_of_ble_eq_true rfl) rfl ?_
          refine a_ifb_ne rfl rfl rfl (fun _ => ?_) (fun c_4 => by first | exact absurd hc c_4 | exact absurd c_4 hc)
          refine a_iload_2 rfl rfl ?_
          refine a_tabIn rfl (by decide) rfl rfl ?_
          refine a_aload_0 rfl rfl ?_
          refine a_virt0 rfl rfl (C1) (Nat.le_of_ble_eq_true rfl) ⟨rfl, rfl, rfl, rfl⟩ rfl rfl rfl (Nat.le_of_ble_eq_true rfl) rfl rfl ?_
          refine a_aload_0 rfl rfl ?_
          refine a_getr rfl rfl rfl (fun _ _ _ => rfl) rfl ?_
          refine a_iload_1 rfl rfl ?_
          refine a_virtI rfl rfl (C2) (Nat.le_of_ble_eq_true rfl) ⟨rfl, rfl, rfl, rfl⟩ rfl rfl rfl (Nat.le_of_ble_eq_true rfl) rfl rfl ?_
          exact a_iret rfl rfl
        · intro L t lt rt rp sw h gl ok H
          refine rr L t lt rt rp sw h gl _ ok H (fun h' gl' H' k1 k2 => ?_)
          refine a_iload_2 rfl rfl ?_
          refine a_tabIn rfl (by decide) rfl rfl ?_
          refine a_aload_0 rfl rfl ?_
          refine a_getr rfl rfl rfl (fun _ _ _ => rfl) rfl ?_
          refine a_iload_1 rfl rfl ?_
          refine a_iald rfl rfl (Or.inl rfl) rfl (by omega) (by decide) ?_
          refine a_as (y := _) (k1 n hn) ?_
          exact a_iret rfl rfl
      | 3, _ =>
        refine ⟨frF (frA A) (A 9) n, ?_, ?_, hA, rfl⟩
        · intro L t lt rt rp sw h gl R H hR
          obtain ⟨F, G, C, P⟩ := e_between (L := L) (t := t) (lt := lt) (rt := rt) (rp := rp) (sw := sw) (gl := gl) (A 9) (nI n) (frA A) (CI_rP H)
          have e : btw (frA A) (A 9) (nI n) = frF (frA A) (A 9) n := by
            rcases A9_p hA with q | q
            · rw [q, fr_out _ _ hn]
              unfold btw
              rw [if_neg (fun z => absurd z.1.1 (by decide))]
            · obtain ⟨m, hm, em⟩ := inC_of q
              rw [em, btw_N _ hm hn]
          rw [e] at C
          refine ⟨_, lt, R, sw, ?_, CF_cl rfl CF_path, CI_path H P, by omega, by omega⟩
          show avA _ 122 0 [.ref 7, .int (nI (n)), .int (nI 3)] [] _ _
          refine a_iload_1 rfl rfl ?_
          refine a_statI rfl rfl (e_isCell (nI n)) (Nat.le_of_ble_eq_true rfl) ⟨rfl, rfl, rfl⟩ rfl rfl rfl (Nat.le_of_ble_eq_true rfl) rfl ?_
          refine a_ifb_ne rfl rfl rfl (fun _ => ?_) (fun c_4 => by first | exact absurd hc c_4 | exact absurd c_4 hc)
          refine a_iload_2 rfl rfl ?_
          refine a_tabIn rfl (by decide) rfl rfl ?_
          refine a_aload_0 rfl rfl ?_
          refine a_getr rfl rfl rfl (fun _ _ _ => rfl) rfl ?_
          refine a_aload_0 rfl rfl ?_
          refine a_getr rfl rfl rfl (fun _ _ _ => rfl) rfl ?_
          refine a_getr rfl rfl rfl (fun _ _ _ => rfl) rfl ?_
          refine a_geti rfl rfl rfl (fun _ _ _ => rfl) ?_
          refine a_as (y := A 9) H.2.2.2.1.2.1.1 ?_
          refine a_iload_1 rfl rfl ?_
          refine a_virtI rfl rfl (C) (Nat.le_of_ble_eq_true rfl) ⟨rfl, rfl, rfl, rfl⟩ rfl rfl rfl (Nat.le_of_ble_eq_true rfl) rfl rfl ?_
          exact a_iret rfl rfl
        · intro L t lt rt rp sw h gl ok H
          refine rr L t lt rt rp sw h gl _ ok H (fun h' gl' H' k1 k2 => ?_)
          refine a_iload_2 rfl rfl ?_
          refine a_tabIn rfl (by decide) rfl rfl ?_
          refine a_aload_0 rfl rfl ?_
          refine a_getr rfl rfl rfl (fun _ _ _ => rfl) rfl ?_
          refine a_iload_1 rfl rfl ?_
          refine a_iald rfl rfl (Or.inl rfl) rfl (by omega) (by decide) ?_
          refine a_as (y := _) (k2 n hn) ?_
          exact a_iret rfl rfl
      | 4, _ =>
        refine ⟨bAt (fun b => A (13 + 5 * b)) (gN A 0) (nI n), ?_, ?_, hA, rfl⟩
        · intro L t lt rt rp sw h gl R H hR
          obtain ⟨e4, _⟩ := CI_e4 H
          have e : bAt (h 15) (gN A 0) (nI n) = bAt (fun b => A (13 + 5 * b)) (gN A 0) (nI n) := bAt_ext (fun b hb => (H.2.2.2.1.2.1.2.2.2.2.2 b hb).1) _
          refine ⟨h, lt, R, sw, ?_, CF_refl, H, by omega, by omega⟩
          show avA _ 122 0 [.ref 7, .int (nI (n)), .int (nI 4)] [] _ _
          refine a_iload_1 rfl rfl ?_
          refine a_statI rfl rfl (e_isCell (nI n)) (Nat.le_of_ble_eq_true rfl) ⟨rfl, rfl, rfl⟩ rfl rfl rfl (Nat.le_of_ble_eq_true rfl) rfl ?_
          refine a_ifb_ne rfl rfl rfl (fun _ => ?_) (fun c_4 => by first | exact absurd hc c_4 | exact absurd c_4 hc)
          refine a_iload_2 rfl rfl ?_
          refine a_tabIn rfl (by decide) rfl rfl ?_
          refine a_aload_0 rfl rfl ?_
          refine a_getr rfl rfl rfl (fun _ _ _ => rfl) rfl ?_
          refine a_getr rfl rfl rfl (fun _ _ _ => rfl) rfl ?_
          refine a_iload_1 rfl rfl ?_
          refine a_virtI rfl rfl (e_beastsAt (nI n) (gN A 0) h5 e4) (Nat.le_of_ble_eq_true rfl) ⟨rfl, rfl, rfl, rfl⟩ rfl rfl rfl (Nat.le_of_ble_eq_true rfl) rfl rfl ?_
          refine a_as (y := _) e ?_
          exact a_iret rfl rfl
        · intro L t lt rt rp sw h gl ok H
          refine rr L t lt rt rp sw h gl _ ok H (fun h' gl' H' k1 k2 => ?_)
          refine a_iload_2 rfl rfl ?_
          refine a_tabIn rfl (by decide) rfl rfl ?_
          refine a_aload_0 rfl rfl ?_
          refine a_iload_1 rfl rfl ?_
          refine a_virtI rfl rfl (r_beastsAt (nI n) (gN A 0) h5 (by rw [H'.1]; exact e0)) (Nat.le_of_ble_eq_true rfl) ⟨rfl, rfl, rfl, rfl⟩ rfl rfl rfl (Nat.le_of_ble_eq_true rfl) rfl rfl ?_
          refine a_as (y := bAt (fun b => A (13 + 5 * b)) (gN A 0) (nI n)) (by rw [H'.1]) ?_
          exact a_iret rfl rfl
    · refine ⟨-2, ?_, ?_, hA, rfl⟩
      · intro L t lt rt rp sw h gl R H hR
        refine ⟨h, lt, R, sw, ?_, CF_refl, H, by omega, by omega⟩
        show avA _ 122 0 [.ref 7, .int (nI (n)), .int (w)] [] _ _
        refine a_iload_1 rfl rfl ?_
        refine a_statI rfl rfl (e_isCell (nI n)) (Nat.le_of_ble_eq_true rfl) ⟨rfl, rfl, rfl⟩ rfl rfl rfl (Nat.le_of_ble_eq_true rfl) rfl ?_
        refine a_ifb_ne rfl rfl rfl (fun _ => ?_) (fun c_4 => by first | exact absurd hc c_4 | exact absurd c_4 hc)
        refine a_iload_2 rfl rfl ?_
        refine a_tabOut rfl (by omega) rfl ?_
        refine a_bipush (v := (-2)) rfl rfl rfl ?_
        exact a_iret rfl rfl
      · intro L t lt rt rp sw h gl ok H
        refine rr L t lt rt rp sw h gl _ ok H (fun h' gl' H' k1 k2 => ?_)
        refine a_iload_2 rfl rfl ?_
        refine a_tabOut rfl (by omega) rfl ?_
        refine a_bipush (v := (-2)) rfl rfl rfl ?_
        exact a_iret rfl rfl
  · refine ⟨-2, ?_, ?_, hA, rfl⟩
    · intro L t lt rt rp sw h gl R H hR
      refine ⟨h, lt, R, sw, ?_, CF_refl, H, by omega, by omega⟩
      show avA _ 122 0 [.ref 7, .int (c), .int (w)] [] _ _
      refine a_iload_1 rfl rfl ?_
      refine a_statI rfl rfl (e_isCell c) (Nat.le_of_ble_eq_true rfl) ⟨rfl, rfl, rfl⟩ rfl rfl rfl (Nat.le_of_ble_eq_true rfl) rfl ?_
      refine a_ifb_ne rfl rfl rfl (fun c_4 => by first | exact absurd c_4 hc | exact absurd hc c_4) (fun _ => ?_)
      refine a_bipush (v := (-2)) rfl rfl rfl ?_
      exact a_iret rfl rfl
    · intro L t lt rt rp sw h gl ok H
      refine ⟨h, gl, ?_, CF_refl, fun _ _ => rfl, H⟩
      show avA _ 277 0 [.ref 81, .int (c), .int (w)] [] _ _
      refine a_iload_1 rfl rfl ?_
      refine a_statI rfl rfl (r_isCell c) (Nat.le_of_ble_eq_true rfl) ⟨rfl, rfl, rfl⟩ rfl rfl rfl (Nat.le_of_ble_eq_true rfl) rfl ?_
      refine a_ifb_ne rfl rfl rfl (fun c_4 => by first | exact absurd c_4 hc | exact absurd hc c_4) (fun _ => ?_)
      refine a_bipush (v := (-2)) rfl rfl rfl ?_
      exact a_iret rfl rfl
/-! is -/
theorem p_is (hA : okA A) (w : Int32) : ∃ r, opP 1 5 123 [.ref 7, .int w] 8 278 [.ref 81, .int w] TX A B r A B := by
  have l8 := gN_le (m := 9999) hA.1 (i := 8) (by omega) (by decide)
  have e8 : A 8 = nI (gN A 8) := gN_eq hA.1 (by omega) (by decide)
  by_cases hw : 0 ≤ w.toInt ∧ w.toInt ≤ 6
  · obtain ⟨q, hq, rfl, _⟩ := cell_of (x := w) (m := 7) hw.1 (by omega)
    match q, hq with
    | 0, _ =>
      refine ⟨A 8, ?_, ?_, hA, rfl⟩
      · intro L t lt rt rp sw h gl R H hR
        refine ⟨h, lt, R, sw, ?_, CF_refl, H, by omega, by omega⟩
        show avA _ 123 0 [.ref 7, .int (nI 0), mvU] [] _ _
        refine a_aload_0 rfl rfl ?_
        refine a_getr rfl rfl rfl (fun _ _ _ => rfl) rfl ?_
        refine a_getr rfl rfl rfl (fun _ _ _ => rfl) rfl ?_
        refine a_astore_2 rfl rfl rfl ?_
        refine a_iload_1 rfl rfl ?_
        refine a_tabIn rfl (by decide) rfl rfl ?_
        refine a_aload_2 rfl rfl ?_
        refine a_geti rfl rfl rfl (fun _ _ _ => rfl) ?_
        refine a_as (y := A 8) H.2.2.2.1.2.1.2.2.1 ?_
        exact a_iret rfl rfl
      · intro L t lt rt rp sw h gl ok H
        refine ⟨h, gl, ?_, CF_refl, fun _ _ => rfl, H⟩
        show avA _ 278 0 [.ref 81, .int (nI 0)] [] _ _
        refine a_iload_1 rfl rfl ?_
        refine a_tabIn rfl (by decide) rfl rfl ?_
        refine a_aload_0 rfl rfl ?_
        refine a_getr rfl rfl rfl (fun _ _ _ => rfl) rfl ?_
        refine a_bipush (v := (nI 8)) rfl rfl rfl ?_
        refine a_iald rfl rfl (Or.inl rfl) rfl (by omega) (by decide) ?_
        refine a_as (y := A 8) (by rw [H.1]) ?_
        exact a_iret rfl rfl
    | 3, _ =>
      refine ⟨A 9, ?_, ?_, hA, rfl⟩
      · intro L t lt rt rp sw h gl R H hR
        refine ⟨h, lt, R, sw, ?_, CF_refl, H, by omega, by omega⟩
        show avA _ 123 0 [.ref 7, .int (nI 3), mvU] [] _ _
        refine a_aload_0 rfl rfl ?_
        refine a_getr rfl rfl rfl (fun _ _ _ => rfl) rfl ?_
        refine a_getr rfl rfl rfl (fun _ _ _ => rfl) rfl ?_
        refine a_astore_2 rfl rfl rfl ?_
        refine a_iload_1 rfl rfl ?_
        refine a_tabIn rfl (by decide) rfl rfl ?_
        refine a_aload_2 rfl rfl ?_
        refine a_geti rfl rfl rfl (fun _ _ _ => rfl) ?_
        refine a_as (y := A 9) H.2.2.2.1.2.1.1 ?_
        exact a_iret rfl rfl
      · intro L t lt rt rp sw h gl ok H
        refine ⟨h, gl, ?_, CF_refl, fun _ _ => rfl, H⟩
        show avA _ 278 0 [.ref 81, .int (nI 3)] [] _ _
        refine a_iload_1 rfl rfl ?_
        refine a_tabIn rfl (by decide) rfl rfl ?_
        refine a_aload_0 rfl rfl ?_
        refine a_getr rfl rfl rfl (fun _ _ _ => rfl) rfl ?_
        refine a_bipush (v := (nI 9)) rfl rfl rfl ?_
        refine a_iald rfl rfl (Or.inl rfl) rfl (by omega) (by decide) ?_
        refine a_as (y := A 9) (by rw [H.1]) ?_
        exact a_iret rfl rfl
    | 4, _ =>
      refine ⟨A 10, ?_, ?_, hA, rfl⟩
      · intro L t lt rt rp sw h gl R H hR
        refine ⟨h, lt, R, sw, ?_, CF_refl, H, by omega, by omega⟩
        show avA _ 123 0 [.ref 7, .int (nI 4), mvU] [] _ _
        refine a_aload_0 rfl rfl ?_
        refine a_getr rfl rfl rfl (fun _ _ _ => rfl) rfl ?_
        refine a_getr rfl rfl rfl (fun _ _ _ => rfl) rfl ?_
        refine a_astore_2 rfl rfl rfl ?_
        refine a_iload_1 rfl rfl ?_
        refine a_tabIn rfl (by decide) rfl rfl ?_
        refine a_aload_2 rfl rfl ?_
        refine a_geti rfl rfl rfl (fun _ _ _ => rfl) ?_
        refine a_as (y := A 10) H.2.2.2.1.2.1.2.1 ?_
        exact a_iret rfl rfl
      · intro L t lt rt rp sw h gl ok H
        refine ⟨h, gl, ?_, CF_refl, fun _ _ => rfl, H⟩
        show avA _ 278 0 [.ref 81, .int (nI 4)] [] _ _
        refine a_iload_1 rfl rfl ?_
        refine a_tabIn rfl (by decide) rfl rfl ?_
        refine a_aload_0 rfl rfl ?_
        refine a_getr rfl rfl rfl (fun _ _ _ => rfl) rfl ?_
        refine a_bipush (v := (nI 10)) rfl rfl rfl ?_
        refine a_iald rfl rfl (Or.inl rfl) rfl (by omega) (by decide) ?_
        refine a_as (y := A 10) (by rw [H.1]) ?_
        exact a_iret rfl rfl
    | 5, _ =>
      refine ⟨A 11, ?_, ?_, hA, rfl⟩
      · intro L t lt rt rp sw h gl R H hR
        refine ⟨h, lt, R, sw, ?_, CF_refl, H, by omega, by omega⟩
        show avA _ 123 0 [.ref 7, .int (nI 5), mvU] [] _ _
        refine a_aload_0 rfl rfl ?_
        refine a_getr rfl rfl rfl (fun _ _ _ => rfl) rfl ?_
        refine a_getr rfl rfl rfl (fun _ _ _ => rfl) rfl ?_
        refine a_astore_2 rfl rfl rfl ?_
        refine a_iload_1 rfl rfl ?_
        refine a_tabIn rfl (by decide) rfl rfl ?_
        refine a_aload_2 rfl rfl ?_
        refine a_geti rfl rfl rfl (fun _ _ _ => rfl) ?_
        refine a_as (y := A 11) H.2.2.2.1.2.1.2.2.2.1 ?_
        exact a_iret rfl rfl
      · intro L t lt rt rp sw h gl ok H
        refine ⟨h, gl, ?_, CF_refl, fun _ _ => rfl, H⟩
        show avA _ 278 0 [.ref 81, .int (nI 5)] [] _ _
        refine a_iload_1 rfl rfl ?_
        refine a_tabIn rfl (by decide) rfl rfl ?_
        refine a_aload_0 rfl rfl ?_
        refine a_getr rfl rfl rfl (fun _ _ _ => rfl) rfl ?_
        refine a_bipush (v := (nI 11)) rfl rfl rfl ?_
        refine a_iald rfl rfl (Or.inl rfl) rfl (by omega) (by decide) ?_
        refine a_as (y := A 11) (by rw [H.1]) ?_
        exact a_iret rfl rfl
    | 1, _ =>
      refine ⟨nI (gN A 8 / 24 % 30), ?_, ?_, hA, rfl⟩
      · intro L t lt rt rp sw h gl R H hR
        obtain ⟨e14, _⟩ := CI_14 H
        refine ⟨h, lt, R, sw, ?_, CF_refl, H, by omega, by omega⟩
        show avA _ 123 0 [.ref 7, .int (nI 1), mvU] [] _ _
        refine a_aload_0 rfl rfl ?_
        refine a_getr rfl rfl rfl (fun _ _ _ => rfl) rfl ?_
        refine a_getr rfl rfl rfl (fun _ _ _ => rfl) rfl ?_
        refine a_astore_2 rfl rfl rfl ?_
        refine a_iload_1 rfl rfl ?_
        refine a_tabIn rfl (by decide) rfl rfl ?_
        refine a_aload_2 rfl rfl ?_
        refine a_geti rfl rfl rfl (fun _ _ _ => rfl) ?_
        refine a_as (y := nI (gN A 8)) e14 ?_
        refine a_statI rfl rfl (e_phaseAt (gN A 8) (by omega)) (Nat.le_of_ble_eq_true rfl) ⟨rfl, rfl, rfl⟩ rfl rfl rfl (Nat.le_of_ble_eq_true rfl) rfl ?_
        exact a_iret rfl rfl
      · intro L t lt rt rp sw h gl ok H
        refine ⟨h, gl, ?_, CF_refl, fun _ _ => rfl, H⟩
        show avA _ 278 0 [.ref 81, .int (nI 1)] [] _ _
        refine a_iload_1 rfl rfl ?_
        refine a_tabIn rfl (by decide) rfl rfl ?_
        refine a_aload_0 rfl rfl ?_
        refine a_virtI rfl rfl (r_phase (gN A 8) l8 (by rw [H.1]; exact e8)) (Nat.le_of_ble_eq_true rfl) ⟨rfl, rfl, rfl, rfl⟩ rfl rfl rfl (Nat.le_of_ble_eq_true rfl) rfl rfl ?_
        exact a_iret rfl rfl
    | 2, _ =>
      refine ⟨nI (szN (gN A 8)), ?_, ?_, hA, rfl⟩
      · intro L t lt rt rp sw h gl R H hR
        obtain ⟨e14, _⟩ := CI_14 H
        refine ⟨h, lt, R, sw, ?_, CF_refl, H, by omega, by omega⟩
        show avA _ 123 0 [.ref 7, .int (nI 2), mvU] [] _ _
        refine a_aload_0 rfl rfl ?_
        refine a_getr rfl rfl rfl (fun _ _ _ => rfl) rfl ?_
        refine a_getr rfl rfl rfl (fun _ _ _ => rfl) rfl ?_
        refine a_astore_2 rfl rfl rfl ?_
        refine a_iload_1 rfl rfl ?_
        refine a_tabIn rfl (by decide) rfl rfl ?_
        refine a_aload_2 rfl rfl ?_
        refine a_geti rfl rfl rfl (fun _ _ _ => rfl) ?_
        refine a_as (y := nI (gN A 8)) e14 ?_
        refine a_statI rfl rfl (e_sizeAt (gN A 8) (by omega)) (Nat.le_of_ble_eq_true rfl) ⟨rfl, rfl, rfl⟩ rfl rfl rfl (Nat.le_of_ble_eq_true rfl) rfl ?_
        exact a_iret rfl rfl
      · intro L t lt rt rp sw h gl ok H
        refine ⟨h, gl, ?_, CF_refl, fun _ _ => rfl, H⟩
        show avA _ 278 0 [.ref 81, .int (nI 2)] [] _ _
        refine a_iload_1 rfl rfl ?_
        refine a_tabIn rfl (by decide) rfl rfl ?_
        refine a_aload_0 rfl rfl ?_
        refine a_virtI rfl rfl (r_phase (gN A 8) l8 (by rw [H.1]; exact e8)) (Nat.le_of_ble_eq_true rfl) ⟨rfl, rfl, rfl, rfl⟩ rfl rfl rfl (Nat.le_of_ble_eq_true rfl) rfl rfl ?_
        refine a_statI rfl rfl (r_sizeOf (gN A 8 / 24 % 30) (by omega)) (Nat.le_of_ble_eq_true rfl) ⟨rfl, rfl, rfl⟩ rfl rfl rfl (Nat.le_of_ble_eq_true rfl) rfl ?_
        refine a_as (y := nI (szN (gN A 8))) rfl ?_
        exact a_iret rfl rfl
    | 6, _ =>
      have b10 : 0 ≤ (A 10).toInt ∧ (A 10).toInt ≤ 9999 := hA.1 10 (by omega)
      refine ⟨nI (pyV (flA TX A) A (gN A 8) (szN (gN A 8)) (A 9) (A 10).toInt), ?_, ?_, hA, rfl⟩
      · intro L t lt rt rp sw h gl R H hR
        obtain ⟨h1, R1, C1, c1, W1, H1, r1, r2⟩ := C_lookNow (L := L) (rt := rt) (rp := rp) (sw := sw) (gl := gl) H hR
        have s1 : h1 14 1 = A 10 := H1.2.2.2.1.2.1.2.1
        obtain ⟨h2, C2, c2, f2⟩ := e_paysBy_14 (L := L) (t := t) (lt := rlO A) (rt := rt) (rp := rp) (sw := sw) (gl := gl) (h := h1) (flA TX A) A (A 9) R1 (gN A 8) (szN (gN A 8)) W1 (by rw [s1]; exact b10)
        rw [s1] at C2
        have W2 := LW_cf rfl (fun p hp => by simp; omega) W1 c2 f2
        refine ⟨h2, rlO A, R1, sw, ?_, CF_trans (CF_cl rfl c1) (CF_cl rfl c2), CI_law H1 rfl rfl rfl c2 (LW_LI H1 W2), r1, r2⟩
        show avA _ 123 0 [.ref 7, .int (nI 6), mvU] [] _ _
        refine a_aload_0 rfl rfl ?_
        refine a_getr rfl rfl rfl (fun _ _ _ => rfl) rfl ?_
        refine a_getr rfl rfl rfl (fun _ _ _ => rfl) rfl ?_
        refine a_astore_2 rfl rfl rfl ?_
        refine a_iload_1 rfl rfl ?_
        refine a_tabIn rfl (by decide) rfl rfl ?_
        refine a_aload_0 rfl rfl ?_
        refine a_virt0 rfl rfl (C1) (Nat.le_of_ble_eq_true rfl) ⟨rfl, rfl, rfl, rfl⟩ rfl rfl rfl (Nat.le_of_ble_eq_true rfl) rfl rfl ?_
        refine a_aload_0 rfl rfl ?_
        refine a_getr rfl rfl rfl (fun _ _ _ => rfl) rfl ?_
        refine a_aload_2 rfl rfl ?_
        refine a_virtI rfl rfl (C2) (Nat.le_of_ble_eq_true rfl) ⟨rfl, rfl, rfl, rfl⟩ rfl rfl rfl (Nat.le_of_ble_eq_true rfl) rfl rfl ?_
        exact a_iret rfl rfl
      · intro L t lt rt rp sw h gl ok H
        obtain ⟨h2, gl2, C2, c2, _⟩ := r_paysNow (L := L) (t := t) (lt := lt) (rt := rt) (rp := rp) (sw := sw) (h := h) (gl := gl) (gN A 8) (flA TX A) l8 (by rw [H.1]; exact e8) (by rw [H.1]; exact rOK_clOK ok.1) (by rw [H.1]; exact A9_p ok) (by rw [H.1]; exact b10) (fun s hs => RI_txR H ok s hs)
        rw [H.1] at C2
        refine ⟨h2, gl2, ?_, CF_rf rfl c2, fun j hj => by rw [c2 81 rfl], RI_cf H rfl c2⟩
        show avA _ 278 0 [.ref 81, .int (nI 6)] [] _ _
        refine a_iload_1 rfl rfl ?_
        refine a_tabIn rfl (by decide) rfl rfl ?_
        refine a_aload_0 rfl rfl ?_
        refine a_virtI rfl rfl (C2) (Nat.le_of_ble_eq_true rfl) ⟨rfl, rfl, rfl, rfl⟩ rfl rfl rfl (Nat.le_of_ble_eq_true rfl) rfl rfl ?_
        exact a_iret rfl rfl
  · refine ⟨-2, ?_, ?_, hA, rfl⟩
    · intro L t lt rt rp sw h gl R H hR
      refine ⟨h, lt, R, sw, ?_, CF_refl, H, by omega, by omega⟩
      show avA _ 123 0 [.ref 7, .int (w), mvU] [] _ _
      refine a_aload_0 rfl rfl ?_
      refine a_getr rfl rfl rfl (fun _ _ _ => rfl) rfl ?_
      refine a_getr rfl rfl rfl (fun _ _ _ => rfl) rfl ?_
      refine a_astore_2 rfl rfl rfl ?_
      refine a_iload_1 rfl rfl ?_
      refine a_tabOut rfl (by omega) rfl ?_
      refine a_bipush (v := (-2)) rfl rfl rfl ?_
      exact a_iret rfl rfl
    · intro L t lt rt rp sw h gl ok H
      refine ⟨h, gl, ?_, CF_refl, fun _ _ => rfl, H⟩
      show avA _ 278 0 [.ref 81, .int (w)] [] _ _
      refine a_iload_1 rfl rfl ?_
      refine a_tabOut rfl (by omega) rfl ?_
      refine a_bipush (v := (-2)) rfl rfl rfl ?_
      exact a_iret rfl rfl
end A2
