/-! WHERE IT MAY LIE by what was seen; what would tell -/
def orN : Nat → (Nat → Bool) → Bool
  | 0, _ => false
  | n + 1, p => orN n p || p n
theorem orN_iff (n : Nat) (p : Nat → Bool) : orN n p = true ↔ ∃ j, j < n ∧ p j = true := by
  induction n with
  | zero => simp [orN]
  | succ n ih =>
    rw [orN, Bool.or_eq_true, ih]
    constructor
    · rintro (⟨j, h1, h2⟩ | h)
      · exact ⟨j, by omega, h2⟩
      · exact ⟨n, by omega, h⟩
    · rintro ⟨j, h1, h2⟩
      by_cases c : j = n
      · subst c; exact Or.inr h2
      · exact Or.inl ⟨j, by omega, h2⟩
theorem orN_ext {n : Nat} {p q : Nat → Bool} (h : ∀ j, j < n → p j = q j) : orN n p = orN n q := by
  induction n with
  | zero => rfl
  | succ n ih => rw [orN, orN, ih (fun j hj => h j (by omega)), h n (by omega)]
theorem orN_F {n : Nat} {p : Nat → Bool} (h : ∀ j, j < n → p j = false) : orN n p = false := by
  induction n with
  | zero => rfl
  | succ n ih => rw [orN, ih (fun j hj => h j (by omega)), h n (by omega)]; rfl
theorem orN_cnt (n : Nat) (p : Nat → Bool) : orN n p = decide (cnt n p ≠ 0) := by
  cases c : orN n p
  · refine (decide_eq_false (fun q => q (cnt_eq0.mpr fun j hj => ?_))).symm
    cases d : p j
    · rfl
    · rw [(orN_iff n p).mpr ⟨j, hj, d⟩] at c; exact absurd c (by decide)
  · obtain ⟨j, hj, d⟩ := (orN_iff n p).mp c
    exact (decide_eq_true (show cnt n p ≠ 0 from fun q => by rw [cnt_eq0.mp q j hj] at d; exact absurd d (by decide))).symm
def sm1 (M : Nat → Nat → Bool) (m : Nat) : Nat → Nat
  | 0 => 0
  | s + 1 => sm1 M m s + cnt m (M s)
def sm2 (M : Nat → Nat → Bool) (n : Nat) : Nat → Nat
  | 0 => 0
  | c + 1 => sm2 M n c + cnt n (fun s => M s c)
theorem sm1_s (M : Nat → Nat → Bool) (m n : Nat) : sm1 M (m + 1) n = sm1 M m n + cnt n (fun s => M s m) := by
  induction n with
  | zero => rfl
  | succ n ih => rw [sm1, sm1, ih, cnt, cnt]; omega
theorem sm12 (M : Nat → Nat → Bool) (m n : Nat) : sm1 M m n = sm2 M n m := by
  induction m with
  | zero =>
    induction n with
    | zero => rfl
    | succ n ih => rw [sm1, ih]; rfl
  | succ m ih => rw [sm1_s, ih, sm2]
theorem sm1_le (M : Nat → Nat → Bool) (n : Nat) : sm1 M 30 n ≤ 30 * n := by
  induction n with
  | zero => exact Nat.le_refl _
  | succ n ih => rw [sm1]; have := cnt_le 30 (M n); omega
theorem sm2_le (M : Nat → Nat → Bool) (n : Nat) : sm2 M 16 n ≤ 16 * n := by
  induction n with
  | zero => exact Nat.le_refl _
  | succ n ih => rw [sm2]; have := cnt_le 16 (fun s => M s n); omega
/-- is what was seen so, for a moon of size s at c? -/
def ftM (TX : Nat → Txt) (A : Nat → Int32) (s c : Nat) : Bool := frA A c && prS (lcA TX A s c) A 122 (gN A 6)
def fitV (M : Nat → Nat → Bool) (w : Int32) : Int32 := if w = nI 0 then nI (sm1 M 30 16) else if w = nI 1 then bsI 30 (fun c => orN 16 (fun s => M s c)) else bsI 16 (fun s => orN 30 (M s))
def cP (M : Nat → Nat → Bool) (c s : Nat) : Nat → Bool := fun j => (decide (j < c) && orN 16 (fun s => M s j)) || (decide (j = c) && orN s (fun s => M s j))
def zP (M : Nat → Nat → Bool) (c s : Nat) : Nat → Bool := fun s' => orN c (fun c' => M s' c') || (decide (s' < s) && M s' c)
theorem cP_T {M : Nat → Nat → Bool} {c s : Nat} (h : M s c = true) (hc : c < 30) : bsI 30 (cP M c s) ||| nI 1 <<< (nI c &&& 31) = bsI 30 (cP M c (s + 1)) := by
  rw [bs_one (n := 30) (by omega) hc, bs_or (by omega)]
  refine bs_ext fun j hj => ?_
  unfold cP
  by_cases q : j = c
  · subst q; simp [orN, h]
  · simp [q]
theorem cP_F {M : Nat → Nat → Bool} {c s : Nat} (h : M s c = false) : bsI 30 (cP M c s) = bsI 30 (cP M c (s + 1)) := by
  refine bs_ext fun j hj => ?_
  unfold cP
  by_cases q : j = c
  · subst q; simp [orN, h]
  · simp [q]
theorem cP_n {M : Nat → Nat → Bool} {c : Nat} : bsI 30 (cP M c 16) = bsI 30 (cP M (c + 1) 0) := by
  refine bs_ext fun j hj => ?_
  unfold cP
  by_cases q : j = c
  · subst q; simp [orN]
  · have e : decide (j < c + 1) = decide (j < c) := decide_eq_decide.mpr (by omega)
    simp [q, e, orN]
theorem cP_no {M : Nat → Nat → Bool} {c : Nat} (h : ∀ s, M s c = false) : bsI 30 (cP M c 0) = bsI 30 (cP M (c + 1) 0) := by
  rw [← cP_n]
  refine bs_ext fun j hj => ?_
  unfold cP
  by_cases q : j = c
  · subst q; simp [orN, h]
  · simp [q]
theorem zP_T {M : Nat → Nat → Bool} {c s : Nat} (h : M s c = true) (hs : s < 16) : bsI 16 (zP M c s) ||| nI 1 <<< (nI s &&& 31) = bsI 16 (zP M c (s + 1)) := by
  rw [bs_one (n := 16) (by omega) hs, bs_or (by omega)]
  refine bs_ext fun j hj => ?_
  unfold zP
  by_cases q : j = s
  · subst q; simp [h]
  · have e : decide (j < s + 1) = decide (j < s) := decide_eq_decide.mpr (by omega)
    simp [q, e]
theorem zP_F {M : Nat → Nat → Bool} {c s : Nat} (h : M s c = false) : bsI 16 (zP M c s) = bsI 16 (zP M c (s + 1)) := by
  refine bs_ext fun j hj => ?_
  unfold zP
  by_cases q : j = s
  · subst q; simp [h]
  · have e : decide (j < s + 1) = decide (j < s) := decide_eq_decide.mpr (by omega)
    simp [e]
theorem zP_n {M : Nat → Nat → Bool} {c : Nat} : bsI 16 (zP M c 16) = bsI 16 (zP M (c + 1) 0) := by
  refine bs_ext fun j hj => ?_
  unfold zP
  simp [hj, orN]
theorem zP_no {M : Nat → Nat → Bool} {c : Nat} (h : ∀ s, M s c = false) : bsI 16 (zP M c 0) = bsI 16 (zP M (c + 1) 0) := by
  refine bs_ext fun j hj => ?_
  unfold zP
  simp [orN, h]
section FI
variable {L t : Nat} {rt rp : Option Nat} {sw : Bool} {gl : Nat → Nat → Int64} {A B : Nat → Int32} {TX : Nat → Txt}
theorem l_cfit (s : Nat) (hs : s ≤ 15) (m : Nat) : ∀ (c R : Nat) (lt : Option Nat) (h : Nat → Nat → Int32), c + m = 30 → CI A B TX R t lt h → R + m < 67108864 → ∃ h' lt' R', avA 4 147 4 [.ref 7, .int (nI s), .int (bsI c (ftM TX A s)), .int (nI c)] [] (sX L t lt rt rp sw h gl) (some (.int (bsI 30 (ftM TX A s))), sX L t lt' rt rp sw h' gl) ∧ CF [8, 9, 10, 34, 35, 39] h h' ∧ CI A B TX R' t lt' h' ∧ R ≤ R' ∧ R' ≤ R + m := by
  induction m with
  | zero =>
    intro c R lt h hc H hR
    have e : c = 30 := by omega
    subst e
    refine ⟨h, lt, R, ?_, CF_refl, H, by omega, by omega⟩
    refine a_iload_3 rfl rfl ?_
    refine a_bipush (v := (nI 30)) rfl rfl rfl ?_
    refine a_cmpN_ge rfl rfl rfl (by omega) (by omega) (fun _ => ?_) (fun c_7 => absurd c_7 (by decide))
    refine a_iload_2 rfl rfl ?_
    exact a_iret rfl rfl
  | succ m ih =>
    intro c R lt h hc H hR
    obtain ⟨e8, l8⟩ := CI_14 H
    have etb : tb (bsI 30 (frA A)) c = frA A c := by rw [tb_bs (by omega)]; simp; omega
    cases q : frA A c with
    | false =>
      obtain ⟨h', lt', R', Z, c1, H', r1, r2⟩ := ih (c + 1) R lt h (by omega) H (by omega)
      rw [bs_succF (p := ftM TX A s) (by unfold ftM; rw [q]; rfl)] at Z
      refine ⟨h', lt', R', ?_, c1, H', by omega, by omega⟩
      refine a_iload_3 rfl rfl ?_
      refine a_bipush (v := (nI 30)) rfl rfl rfl ?_
      refine a_cmpN_ge rfl rfl rfl (by omega) (by omega) (fun c_7 => False.elim (by omega)) (fun _ => ?_)
      refine a_aload_0 rfl rfl ?_
      refine a_getr rfl rfl rfl (fun _ _ _ => rfl) rfl ?_
      refine a_geti rfl rfl rfl (fun _ _ _ => rfl) ?_
      refine a_as (y := _) (CI_op H) ?_
      refine a_iload_3 rfl rfl ?_
      refine a_statI rfl rfl (e_has (bsI 30 (frA A)) c (by omega)) (Nat.le_of_ble_eq_true rfl) ⟨rfl, rfl, rfl⟩ rfl rfl rfl (Nat.le_of_ble_eq_true rfl) rfl ?_
      refine a_ifb_eq rfl rfl rfl (fun _ => ?_) (fun c_21 => by first | exact absurd (by rw [etb, q]; decide) c_21 | exact absurd c_21 (by rw [etb, q]; decide))
      refine a_iinc_3 rfl rfl (nI_inc _ _) rfl ?_
      refine a_goto rfl rfl ?_
      exact Z
    | true =>
      have Cr := e_ruling (L := L) (rt := rt) (rp := rp) (sw := sw) (gl := gl) H
      obtain ⟨h1, R1, C1, c1, W1, H1, r1, r2⟩ := C_look (L := L) (rt := rt) (rp := rp) (sw := sw) (gl := gl) H (bOK_rl (TX := TX) H.1) (nI c) (gN A 8) s (by omega) l8 hs (Or.inr (inC_nI (by omega)))
      obtain ⟨h2, C2, c2, W2⟩ := e_allAre_26 (L := L) (rt := rt) (rp := rp) (sw := sw) (gl := gl) H1 W1
      have H2 : CI A B TX R1 t (rlO A) h2 := CI_law H1 rfl rfl rfl c2 (LW_LI H1 W2)
      obtain ⟨h', lt', R', Z, c3, H', r3, r4⟩ := ih (c + 1) R1 (rlO A) h2 (by omega) H2 (by omega)
      have em : ftM TX A s c = prS (lcA TX A s c) A 122 (gN A 6) := by unfold ftM; rw [q]; rfl
      have C2' : avE 3 148 [.ref 8, .ref 26] (sX L t (rlO A) rt rp sw h1 gl) (some (.int (bB (ftM TX A s c))), sX L t (rlO A) rt rp sw h2 gl) := by rw [em]; exact C2
      refine ⟨h', lt', R', ?_, CF_trans (CF_mono (by decide) c1) (CF_trans (CF_mono (by decide) c2) c3), H', by omega, by omega⟩
      cases g : ftM TX A s c with
      | true =>
        rw [g] at C2'
        rw [← bs_succT (p := ftM TX A s) (by omega) g] at Z
        cases hro : rlO A with
        | none =>
          rw [hro] at Cr C1 C2' Z
          refine a_iload_3 rfl rfl ?_
          refine a_bipush (v := (nI 30)) rfl rfl rfl ?_
          refine a_cmpN_ge rfl rfl rfl (by omega) (by omega) (fun c_7 => False.elim (by omega)) (fun _ => ?_)
          refine a_aload_0 rfl rfl ?_
          refine a_getr rfl rfl rfl (fun _ _ _ => rfl) rfl ?_
          refine a_geti rfl rfl rfl (fun _ _ _ => rfl) ?_
          refine a_as (y := _) (CI_op H) ?_
          refine a_iload_3 rfl rfl ?_
          refine a_statI rfl rfl (e_has (bsI 30 (frA A)) c (by omega)) (Nat.le_of_ble_eq_true rfl) ⟨rfl, rfl, rfl⟩ rfl rfl rfl (Nat.le_of_ble_eq_true rfl) rfl ?_
          refine a_ifb_eq rfl rfl rfl (fun c_21 => by first | exact absurd c_21 (not_not_intro (by rw [etb, q])) | exact absurd (not_not_intro (by rw [etb, q])) c_21) (fun _ => ?_)
          refine a_aload_0 rfl rfl ?_
          refine a_getr rfl rfl rfl (fun _ _ _ => rfl) rfl ?_
          refine a_aload_0 rfl rfl ?_
          refine a_virtN rfl rfl (Cr) (Nat.le_of_ble_eq_true rfl) ⟨rfl, rfl, rfl, rfl⟩ rfl rfl rfl (Nat.le_of_ble_eq_true rfl) rfl rfl ?_
          refine a_iload_3 rfl rfl ?_
          refine a_aload_0 rfl rfl ?_
          refine a_getr rfl rfl rfl (fun _ _ _ => rfl) rfl ?_
          refine a_getr rfl rfl rfl (fun _ _ _ => rfl) rfl ?_
          refine a_geti rfl rfl rfl (fun _ _ _ => rfl) ?_
          refine a_as (y := nI (gN A 8)) e8 ?_
          refine a_iload_1 rfl rfl ?_
          refine a_virt0 rfl rfl (C1) (Nat.le_of_ble_eq_true rfl) ⟨rfl, rfl, rfl, rfl⟩ rfl rfl rfl (Nat.le_of_ble_eq_true rfl) rfl rfl ?_
          refine a_aload_0 rfl rfl ?_
          refine a_getr rfl rfl rfl (fun _ _ _ => rfl) rfl ?_
          refine a_aload_0 rfl rfl ?_
          refine a_getr rfl rfl rfl (fun _ _ _ => rfl) rfl ?_
          refine a_getr rfl rfl rfl (fun _ _ _ => rfl) rfl ?_
          refine a_virtI rfl rfl (C2') (Nat.le_of_ble_eq_true rfl) ⟨rfl, rfl, rfl, rfl⟩ rfl rfl rfl (Nat.le_of_ble_eq_true rfl) rfl rfl ?_
          refine a_ifN_eq rfl rfl rfl (by decide) (fun c_61 => False.elim (absurd c_61 (by decide))) (fun _ => ?_)
          refine a_iload_2 rfl rfl ?_
          refine a_iconst (v := (nI 1)) rfl rfl rfl ?_
          refine a_iload_3 rfl rfl ?_
          refine a_ishl rfl rfl ?_
          refine a_ior rfl rfl ?_
          refine a_istore_2 rfl rfl rfl ?_
          refine a_iinc_3 rfl rfl (nI_inc _ _) rfl ?_
          refine a_goto rfl rfl ?_
          exact Z
        | some o =>
          rw [hro] at Cr C1 C2' Z
          refine a_iload_3 rfl rfl ?_
          refine a_bipush (v := (nI 30)) rfl rfl rfl ?_
          refine a_cmpN_ge rfl rfl rfl (by omega) (by omega) (fun c_7 => False.elim (by omega)) (fun _ => ?_)
          refine a_aload_0 rfl rfl ?_
          refine a_getr rfl rfl rfl (fun _ _ _ => rfl) rfl ?_
          refine a_geti rfl rfl rfl (fun _ _ _ => rfl) ?_
          refine a_as (y := _) (CI_op H) ?_
          refine a_iload_3 rfl rfl ?_
          refine a_statI rfl rfl (e_has (bsI 30 (frA A)) c (by omega)) (Nat.le_of_ble_eq_true rfl) ⟨rfl, rfl, rfl⟩ rfl rfl rfl (Nat.le_of_ble_eq_true rfl) rfl ?_
          refine a_ifb_eq rfl rfl rfl (fun c_21 => by first | exact absurd c_21 (not_not_intro (by rw [etb, q])) | exact absurd (not_not_intro (by rw [etb, q])) c_21) (fun _ => ?_)
          refine a_aload_0 rfl rfl ?_
          refine a_getr rfl rfl rfl (fun _ _ _ => rfl) rfl ?_
          refine a_aload_0 rfl rfl ?_
          refine a_virtR rfl rfl (Cr) (Nat.le_of_ble_eq_true rfl) ⟨rfl, rfl, rfl, rfl⟩ rfl rfl rfl (Nat.le_of_ble_eq_true rfl) rfl rfl ?_
          refine a_iload_3 rfl rfl ?_
          refine a_aload_0 rfl rfl ?_
          refine a_getr rfl rfl rfl (fun _ _ _ => rfl) rfl ?_
          refine a_getr rfl rfl rfl (fun _ _ _ => rfl) rfl ?_
          refine a_geti rfl rfl rfl (fun _ _ _ => rfl) ?_
          refine a_as (y := nI (gN A 8)) e8 ?_
          refine a_iload_1 rfl rfl ?_
          refine a_virt0 rfl rfl (C1) (Nat.le_of_ble_eq_true rfl) ⟨rfl, rfl, rfl, rfl⟩ rfl rfl rfl (Nat.le_of_ble_eq_true rfl) rfl rfl ?_
          refine a_aload_0 rfl rfl ?_
          refine a_getr rfl rfl rfl (fun _ _ _ => rfl) rfl ?_
          refine a_aload_0 rfl rfl ?_
          refine a_getr rfl rfl rfl (fun _ _ _ => rfl) rfl ?_
          refine a_getr rfl rfl rfl (fun _ _ _ => rfl) rfl ?_
          refine a_virtI rfl rfl (C2') (Nat.le_of_ble_eq_true rfl) ⟨rfl, rfl, rfl, rfl⟩ rfl rfl rfl (Nat.le_of_ble_eq_true rfl) rfl rfl ?_
          refine a_ifN_eq rfl rfl rfl (by decide) (fun c_61 => False.elim (absurd c_61 (by decide))) (fun _ => ?_)
          refine a_iload_2 rfl rfl ?_
          refine a_iconst (v := (nI 1)) rfl rfl rfl ?_
          refine a_iload_3 rfl rfl ?_
          refine a_ishl rfl rfl ?_
          refine a_ior rfl rfl ?_
          refine a_istore_2 rfl rfl rfl ?_
          refine a_iinc_3 rfl rfl (nI_inc _ _) rfl ?_
          refine a_goto rfl rfl ?_
          exact Z
      | false =>
        rw [g] at C2'
        rw [bs_succF (p := ftM TX A s) g] at Z
        cases hro : rlO A with
        | none =>
          rw [hro] at Cr C1 C2' Z
          refine a_iload_3 rfl rfl ?_
          refine a_bipush (v := (nI 30)) rfl rfl rfl ?_
          refine a_cmpN_ge rfl rfl rfl (by omega) (by omega) (fun c_7 => False.elim (by omega)) (fun _ => ?_)
          refine a_aload_0 rfl rfl ?_
          refine a_getr rfl rfl rfl (fun _ _ _ => rfl) rfl ?_
          refine a_geti rfl rfl rfl (fun _ _ _ => rfl) ?_
          refine a_as (y := _) (CI_op H) ?_
          refine a_iload_3 rfl rfl ?_
          refine a_statI rfl rfl (e_has (bsI 30 (frA A)) c (by omega)) (Nat.le_of_ble_eq_true rfl) ⟨rfl, rfl, rfl⟩ rfl rfl rfl (Nat.le_of_ble_eq_true rfl) rfl ?_
          refine a_ifb_eq rfl rfl rfl (fun c_21 => by first | exact absurd c_21 (not_not_intro (by rw [etb, q])) | exact absurd (not_not_intro (by rw [etb, q])) c_21) (fun _ => ?_)
          refine a_aload_0 rfl rfl ?_
          refine a_getr rfl rfl rfl (fun _ _ _ => rfl) rfl ?_
          refine a_aload_0 rfl rfl ?_
          refine a_virtN rfl rfl (Cr) (Nat.le_of_ble_eq_true rfl) ⟨rfl, rfl, rfl, rfl⟩ rfl rfl rfl (Nat.le_of_ble_eq_true rfl) rfl rfl ?_
          refine a_iload_3 rfl rfl ?_
          refine a_aload_0 rfl rfl ?_
          refine a_getr rfl rfl rfl (fun _ _ _ => rfl) rfl ?_
          refine a_getr rfl rfl rfl (fun _ _ _ => rfl) rfl ?_
          refine a_geti rfl rfl rfl (fun _ _ _ => rfl) ?_
          refine a_as (y := nI (gN A 8)) e8 ?_
          refine a_iload_1 rfl rfl ?_
          refine a_virt0 rfl rfl (C1) (Nat.le_of_ble_eq_true rfl) ⟨rfl, rfl, rfl, rfl⟩ rfl rfl rfl (Nat.le_of_ble_eq_true rfl) rfl rfl ?_
          refine a_aload_0 rfl rfl ?_
          refine a_getr rfl rfl rfl (fun _ _ _ => rfl) rfl ?_
          refine a_aload_0 rfl rfl ?_
          refine a_getr rfl rfl rfl (fun _ _ _ => rfl) rfl ?_
          refine a_getr rfl rfl rfl (fun _ _ _ => rfl) rfl ?_
          refine a_virtI rfl rfl (C2') (Nat.le_of_ble_eq_true rfl) ⟨rfl, rfl, rfl, rfl⟩ rfl rfl rfl (Nat.le_of_ble_eq_true rfl) rfl rfl ?_
          refine a_ifN_eq rfl rfl rfl (by decide) (fun _ => ?_) (fun c_61 => False.elim (absurd c_61 (by decide)))
          refine a_iinc_3 rfl rfl (nI_inc _ _) rfl ?_
          refine a_goto rfl rfl ?_
          exact Z
        | some o =>
          rw [hro] at Cr C1 C2' Z
          refine a_iload_3 rfl rfl ?_
          refine a_bipush (v := (nI 30)) rfl rfl rfl ?_
          refine a_cmpN_ge rfl rfl rfl (by omega) (by omega) (fun c_7 => False.elim (by omega)) (fun _ => ?_)
          refine a_aload_0 rfl rfl ?_
          refine a_getr rfl rfl rfl (fun _ _ _ => rfl) rfl ?_
          refine a_geti rfl rfl rfl (fun _ _ _ => rfl) ?_
          refine a_as (y := _) (CI_op H) ?_
          refine a_iload_3 rfl rfl ?_
          refine a_statI rfl rfl (e_has (bsI 30 (frA A)) c (by omega)) (Nat.le_of_ble_eq_true rfl) ⟨rfl, rfl, rfl⟩ rfl rfl rfl (Nat.le_of_ble_eq_true rfl) rfl ?_
          refine a_ifb_eq rfl rfl rfl (fun c_21 => by first | exact absurd c_21 (not_not_intro (by rw [etb, q])) | exact absurd (not_not_intro (by rw [etb, q])) c_21) (fun _ => ?_)
          refine a_aload_0 rfl rfl ?_
          refine a_getr rfl rfl rfl (fun _ _ _ => rfl) rfl ?_
          refine a_aload_0 rfl rfl ?_
          refine a_virtR rfl rfl (Cr) (Nat.le_of_ble_eq_true rfl) ⟨rfl, rfl, rfl, rfl⟩ rfl rfl rfl (Nat.le_of_ble_eq_true rfl) rfl rfl ?_
          refine a_iload_3 rfl rfl ?_
          refine a_aload_0 rfl rfl ?_
          refine a_getr rfl rfl rfl (fun _ _ _ => rfl) rfl ?_
          refine a_getr rfl rfl rfl (fun _ _ _ => rfl) rfl ?_
          refine a_geti rfl rfl rfl (fun _ _ _ => rfl) ?_
          refine a_as (y := nI (gN A 8)) e8 ?_
          refine a_iload_1 rfl rfl ?_
          refine a_virt0 rfl rfl (C1) (Nat.le_of_ble_eq_true rfl) ⟨rfl, rfl, rfl, rfl⟩ rfl rfl rfl (Nat.le_of_ble_eq_true rfl) rfl rfl ?_
          refine a_aload_0 rfl rfl ?_
          refine a_getr rfl rfl rfl (fun _ _ _ => rfl) rfl ?_
          refine a_aload_0 rfl rfl ?_
          refine a_getr rfl rfl rfl (fun _ _ _ => rfl) rfl ?_
          refine a_getr rfl rfl rfl (fun _ _ _ => rfl) rfl ?_
          refine a_virtI rfl rfl (C2') (Nat.le_of_ble_eq_true rfl) ⟨rfl, rfl, rfl, rfl⟩ rfl rfl rfl (Nat.le_of_ble_eq_true rfl) rfl rfl ?_
          refine a_ifN_eq rfl rfl rfl (by decide) (fun _ => ?_) (fun c_61 => False.elim (absurd c_61 (by decide)))
          refine a_iinc_3 rfl rfl (nI_inc _ _) rfl ?_
          refine a_goto rfl rfl ?_
          exact Z
theorem C_fit (s : Nat) (hs : s ≤ 15) {R : Nat} {lt : Option Nat} {h : Nat → Nat → Int32} (H : CI A B TX R t lt h) (hR : R + 30 < 67108864) : ∃ h' lt' R', avE 4 147 [.ref 7, .int (nI s)] (sX L t lt rt rp sw h gl) (some (.int (bsI 30 (ftM TX A s))), sX L t lt' rt rp sw h' gl) ∧ CF [8, 9, 10, 34, 35, 39] h h' ∧ CI A B TX R' t lt' h' ∧ R ≤ R' ∧ R' ≤ R + 30 := by
  obtain ⟨h', lt', R', Z, c, H', r1, r2⟩ := l_cfit (L := L) (t := t) (rt := rt) (rp := rp) (sw := sw) (gl := gl) s hs 30 0 R lt h rfl H hR
  refine ⟨h', lt', R', ?_, c, H', r1, r2⟩
  show avA _ 147 0 [.ref 7, .int (nI (s)), mvU, mvU] [] _ _
  refine a_iconst (v := (nI 0)) rfl rfl rfl ?_
  refine a_istore_2 rfl rfl rfl ?_
  refine a_iconst (v := (nI 0)) rfl rfl rfl ?_
  refine a_istore_3 rfl rfl rfl ?_
  exact Z
theorem l_cfits (w : Int32) (m : Nat) : ∀ (s R : Nat) (y6 : Value) (lt : Option Nat) (h : Nat → Nat → Int32), s + m = 16 → CI A B TX R t lt h → R + 30 * m < 67108864 → ∃ h' lt' R', CF [8, 9, 10, 34, 35, 39] h h' ∧ CI A B TX R' t lt' h' ∧ R ≤ R' ∧ R' ≤ R + 30 * m ∧ ∀ r : Option Value × mvSt, (∀ y6, avA 5 146 68 [.ref 7, .int w, .int (nI (sm1 (ftM TX A) 30 16)), .int (bsI 30 (fun c => orN 16 (fun s => ftM TX A s c))), .int (bsI 16 (fun s => orN 30 (ftM TX A s))), .int (nI 16), y6] [] (sX L t lt' rt rp sw h' gl) r) → avA 5 146 20 [.ref 7, .int w, .int (nI (sm1 (ftM TX A) 30 s)), .int (bsI 30 (fun c => orN s (fun s => ftM TX A s c))), .int (bsI s (fun s => orN 30 (ftM TX A s))), .int (nI s), y6] [] (sX L t lt rt rp sw h gl) r := by
  induction m with
  | zero =>
    intro s R y6 lt h hs H hR
    have e : s = 16 := by omega
    subst e
    refine ⟨h, lt, R, CF_refl, H, by omega, by omega, fun r Z => ?_⟩
    refine a_iload_5 rfl rfl ?_
    refine a_bipush (v := (nI 15)) rfl rfl rfl ?_
    refine a_cmpN_gt rfl rfl rfl (by omega) (by omega) (fun _ => ?_) (fun c_24 => absurd c_24 (by decide))
    exact Z _
  | succ m ih =>
    intro s R y6 lt h hs H hR
    obtain ⟨h1, lt1, R1, C1, c1, H1, r1, r2⟩ := C_fit (L := L) (rt := rt) (rp := rp) (sw := sw) (gl := gl) s (by omega) H (by omega)
    obtain ⟨h', lt', R', c2, H', r3, r4, K⟩ := ih (s + 1) R1 (.int (bsI 30 (ftM TX A s))) lt1 h1 (by omega) H1 (by omega)
    refine ⟨h', lt', R', CF_trans c1 c2, H', by omega, by omega, fun r Z => ?_⟩
    have A1 := K r Z
    have eo : bsI 30 (fun c => orN (s + 1) (fun s => ftM TX A s c)) = bsI 30 (fun c => orN s (fun s => ftM TX A s c)) ||| bsI 30 (ftM TX A s) := by
      rw [bs_or (by omega)]
      rfl
    rw [sm1] at A1
    by_cases q : bsI 30 (ftM TX A s) = 0
    · have q0 := (bs_eq0 (by omega) _).mp q
      rw [cnt_eq0.mpr q0, eo, q, Int32.or_zero, bs_succF (p := fun s => orN 30 (ftM TX A s)) (orN_F q0), Nat.add_zero] at A1
      refine a_iload_5 rfl rfl ?_
      refine a_bipush (v := (nI 15)) rfl rfl rfl ?_
      refine a_cmpN_gt rfl rfl rfl (by omega) (by omega) (fun c_24 => False.elim (by omega)) (fun _ => ?_)
      refine a_aload_0 rfl rfl ?_
      refine a_iload_5 rfl rfl ?_
      refine a_virtI rfl rfl (C1) (Nat.le_of_ble_eq_true rfl) ⟨rfl, rfl, rfl, rfl⟩ rfl rfl rfl (Nat.le_of_ble_eq_true rfl) rfl rfl ?_
      refine a_istore_6 rfl rfl rfl ?_
      refine a_iload_6 rfl rfl ?_
      refine a_if_eq rfl rfl rfl (fun _ => ?_) (fun c_37 => by first | exact absurd q c_37 | exact absurd c_37 q)
      refine a_iinc_5 rfl rfl (nI_inc _ _) rfl ?_
      refine a_goto rfl rfl ?_
      rw [q]; exact A1
    · have q1 : orN 30 (ftM TX A s) = true := by
        rw [orN_cnt]
        exact decide_eq_true (fun z => q ((bs_eq0 (by omega) _).mpr (cnt_eq0.mp z)))
      rw [eo, ← bs_succT (p := fun s => orN 30 (ftM TX A s)) (by omega) q1] at A1
      refine a_iload_5 rfl rfl ?_
      refine a_bipush (v := (nI 15)) rfl rfl rfl ?_
      refine a_cmpN_gt rfl rfl rfl (by omega) (by omega) (fun c_24 => False.elim (by omega)) (fun _ => ?_)
      refine a_aload_0 rfl rfl ?_
      refine a_iload_5 rfl rfl ?_
      refine a_virtI rfl rfl (C1) (Nat.le_of_ble_eq_true rfl) ⟨rfl, rfl, rfl, rfl⟩ rfl rfl rfl (Nat.le_of_ble_eq_true rfl) rfl rfl ?_
      refine a_istore_6 rfl rfl rfl ?_
      refine a_iload_6 rfl rfl ?_
      refine a_if_eq rfl rfl rfl (fun c_37 => by first | exact absurd c_37 q | exact absurd q c_37) (fun _ => ?_)
      refine a_iload_2 rfl rfl ?_
      refine a_iload_6 rfl rfl ?_
      refine a_statI rfl rfl (e_bitCountS (by omega) _) (Nat.le_of_ble_eq_true rfl) ⟨rfl, rfl, rfl⟩ rfl rfl rfl (Nat.le_of_ble_eq_true rfl) rfl ?_
      refine a_iaddN rfl rfl ?_
      refine a_istore_2 rfl rfl rfl ?_
      refine a_iload_3 rfl rfl ?_
      refine a_iload_6 rfl rfl ?_
      refine a_ior rfl rfl ?_
      refine a_istore_3 rfl rfl rfl ?_
      refine a_iload_4 rfl rfl ?_
      refine a_iconst (v := (nI 1)) rfl rfl rfl ?_
      refine a_iload_5 rfl rfl ?_
      refine a_ishl rfl rfl ?_
      refine a_ior rfl rfl ?_
      refine a_istore_4 rfl rfl rfl ?_
      refine a_iinc_5 rfl rfl (nI_inc _ _) rfl ?_
      refine a_goto rfl rfl ?_
      exact A1
end FI
section FR
variable {L t : Nat} {lt rt rp : Option Nat} {sw : Bool} {A B : Nat → Int32} {TX : Nat → Txt}
theorem l_isSeen (ok : okA A) (s c : Nat) (hs : s ≤ 15) (m : Nat) : ∀ (k : Nat) (h : Nat → Nat → Int32) (gl : Nat → Nat → Int64), k + m = gN A 6 → RI A B TX h → (∀ e, e < 30 → h 91 e = frF (frA A) (nI c) e) → prS (lcA TX A s c) A 122 k = true → ∃ h' gl', avA 5 305 2 [.ref 81, .int (nI s), .int (nI k)] [] (sX L t lt rt rp sw h gl) (some (.int (bB (prS (lcA TX A s c) A 122 (gN A 6)))), sX L t lt rt rp sw h' gl') ∧ CF [87, 90] h h' := by
  have l8 := gN_le (m := 9999) ok.1 (i := 8) (by omega) (by decide)
  have n8 := gN_le (m := 8) ok.1 (i := 6) (by omega) (by decide)
  induction m with
  | zero =>
    intro k h gl hk H hX hq
    have e6 : h 82 6 = nI (gN A 6) := by rw [H.1]; exact gN_eq ok.1 (by omega) (by decide)
    have e : k = gN A 6 := by omega
    subst e
    refine ⟨h, gl, ?_, CF_refl⟩
    rw [hq]
    refine a_iload_2 rfl rfl ?_
    refine a_aload_0 rfl rfl ?_
    refine a_getr rfl rfl rfl (fun _ _ _ => rfl) rfl ?_
    refine a_bipush (v := (nI 6)) rfl rfl rfl ?_
    refine a_iald rfl rfl (Or.inl rfl) rfl (by omega) (by decide) ?_
    refine a_as (y := nI (gN A 6)) e6 ?_
    refine a_cmpN_ge rfl rfl rfl (by omega) (by omega) (fun _ => ?_) (fun c_10 => False.elim (by omega))
    refine a_iconst (v := (nI 1)) rfl rfl rfl ?_
    exact a_zret rfl rfl (Or.inr rfl)
  | succ m ih =>
    intro k h gl hk H hX hq
    have e6 : h 82 6 = nI (gN A 6) := by rw [H.1]; exact gN_eq ok.1 (by omega) (by decide)
    have e8 : h 82 8 = nI (gN A 8) := by rw [H.1]; exact gN_eq ok.1 (by omega) (by decide)
    obtain ⟨⟨v1, v2⟩, v3, v4⟩ := pr_v ok 122 k (by omega) (by omega)
    obtain ⟨h1, gl1, C1, c1⟩ := r_shinesOf (L := L) (t := t) (lt := lt) (rt := rt) (rp := rp) (sw := sw) (gl := gl) (h 82 2) (gN A (122 + 2 * k)) (gN A 8) s (nI c) (flA TX A 0) v2 l8 hs e8 (by rw [H.1]; exact rOK_clOK ok.1) (RI_txR H ok 0 (by omega)) (by rw [H.1]; exact hX _ v2)
    have C1' : avE 4 257 [.ref 81, .int (A 2), .int (nI (gN A (122 + 2 * k))), .int (nI s)] (sX L t lt rt rp sw h gl) (some (.int (nI (lcA TX A s c (gN A (122 + 2 * k))))), sX L t lt rt rp sw h1 gl1) := by
      rw [H.1] at C1
      exact C1
    have lv := lcA_le TX A s c (gN A (122 + 2 * k))
    have H1 : RI A B TX h1 := RI_cf H rfl c1
    by_cases w : lcA TX A s c (gN A (122 + 2 * k)) = gN A (122 + 2 * k + 1)
    · obtain ⟨h', gl', Z, c2⟩ := ih (k + 1) h1 gl1 (by omega) H1 (by rw [c1 91 rfl]; exact hX) (by rw [prS, hq]; simp [w])
      refine ⟨h', gl', ?_, CF_trans c1 c2⟩
      refine a_iload_2 rfl rfl ?_
      refine a_aload_0 rfl rfl ?_
      refine a_getr rfl rfl rfl (fun _ _ _ => rfl) rfl ?_
      refine a_bipush (v := (nI 6)) rfl rfl rfl ?_
      refine a_iald rfl rfl (Or.inl rfl) rfl (by omega) (by decide) ?_
      refine a_as (y := nI (gN A 6)) e6 ?_
      refine a_cmpN_ge rfl rfl rfl (by omega) (by omega) (fun c_10 => False.elim (by omega)) (fun _ => ?_)
      refine a_aload_0 rfl rfl ?_
      refine a_aload_0 rfl rfl ?_
      refine a_getr rfl rfl rfl (fun _ _ _ => rfl) rfl ?_
      refine a_iconst (v := (nI 2)) rfl rfl rfl ?_
      refine a_iald rfl rfl (Or.inl rfl) rfl (by omega) (by decide) ?_
      refine a_as (y := A 2) (by rw [H.1]) ?_
      refine a_aload_0 rfl rfl ?_
      refine a_getr rfl rfl rfl (fun _ _ _ => rfl) rfl ?_
      refine a_bipush (v := (nI 122)) rfl rfl rfl ?_
      refine a_iconst (v := (nI 2)) rfl rfl rfl ?_
      refine a_iload_2 rfl rfl ?_
      refine a_imulN rfl rfl ?_
      refine a_iaddN rfl rfl ?_
      refine a_iald rfl rfl (Or.inl rfl) rfl (by omega) (by decide) ?_
      refine a_as (y := nI (gN A (122 + 2 * k))) (by rw [H.1]; exact v1) ?_
      refine a_iload_1 rfl rfl ?_
      refine a_virtI rfl rfl (C1') (Nat.le_of_ble_eq_true rfl) ⟨rfl, rfl, rfl, rfl⟩ rfl rfl rfl (Nat.le_of_ble_eq_true rfl) rfl rfl ?_
      refine a_aload_0 rfl rfl ?_
      refine a_getr rfl rfl rfl (fun _ _ _ => rfl) rfl ?_
      refine a_bipush (v := (nI 122)) rfl rfl rfl ?_
      refine a_iconst (v := (nI 2)) rfl rfl rfl ?_
      refine a_iload_2 rfl rfl ?_
      refine a_imulN rfl rfl ?_
      refine a_iaddN rfl rfl ?_
      refine a_iconst (v := (nI 1)) rfl rfl rfl ?_
      refine a_iaddN rfl rfl ?_
      refine a_iald rfl rfl (Or.inl rfl) rfl (by omega) (by decide) ?_
      refine a_as (y := nI (gN A (122 + 2 * k + 1))) (by rw [H1.1]; exact v3) ?_
      refine a_cmpN_eq rfl rfl rfl (by omega) (by omega) (fun _ => ?_) (fun c_48 => False.elim (by omega))
      refine a_iinc_2 rfl rfl (nI_inc _ _) rfl ?_
      refine a_goto rfl rfl ?_
      exact Z
    · have a1 : prS (lcA TX A s c) A 122 (k + 1) = false := by rw [prS, hq]; simp [w]
      refine ⟨h1, gl1, ?_, c1⟩
      rw [prS_F a1 (by omega)]
      refine a_iload_2 rfl rfl ?_
      refine a_aload_0 rfl rfl ?_
      refine a_getr rfl rfl rfl (fun _ _ _ => rfl) rfl ?_
      refine a_bipush (v := (nI 6)) rfl rfl rfl ?_
      refine a_iald rfl rfl (Or.inl rfl) rfl (by omega) (by decide) ?_
      refine a_as (y := nI (gN A 6)) e6 ?_
      refine a_cmpN_ge rfl rfl rfl (by omega) (by omega) (fun c_10 => False.elim (by omega)) (fun _ => ?_)
      refine a_aload_0 rfl rfl ?_
      refine a_aload_0 rfl rfl ?_
      refine a_getr rfl rfl rfl (fun _ _ _ => rfl) rfl ?_
      refine a_iconst (v := (nI 2)) rfl rfl rfl ?_
      refine a_iald rfl rfl (Or.inl rfl) rfl (by omega) (by decide) ?_
      refine a_as (y := A 2) (by rw [H.1]) ?_
      refine a_aload_0 rfl rfl ?_
      refine a_getr rfl rfl rfl (fun _ _ _ => rfl) rfl ?_
      refine a_bipush (v := (nI 122)) rfl rfl rfl ?_
      refine a_iconst (v := (nI 2)) rfl rfl rfl ?_
      refine a_iload_2 rfl rfl ?_
      refine a_imulN rfl rfl ?_
      refine a_iaddN rfl rfl ?_
      refine a_iald rfl rfl (Or.inl rfl) rfl (by omega) (by decide) ?_
      refine a_as (y := nI (gN A (122 + 2 * k))) (by rw [H.1]; exact v1) ?_
      refine a_iload_1 rfl rfl ?_
      refine a_virtI rfl rfl (C1') (Nat.le_of_ble_eq_true rfl) ⟨rfl, rfl, rfl, rfl⟩ rfl rfl rfl (Nat.le_of_ble_eq_true rfl) rfl rfl ?_
      refine a_aload_0 rfl rfl ?_
      refine a_getr rfl rfl rfl (fun _ _ _ => rfl) rfl ?_
      refine a_bipush (v := (nI 122)) rfl rfl rfl ?_
      refine a_iconst (v := (nI 2)) rfl rfl rfl ?_
      refine a_iload_2 rfl rfl ?_
      refine a_imulN rfl rfl ?_
      refine a_iaddN rfl rfl ?_
      refine a_iconst (v := (nI 1)) rfl rfl rfl ?_
      refine a_iaddN rfl rfl ?_
      refine a_iald rfl rfl (Or.inl rfl) rfl (by omega) (by decide) ?_
      refine a_as (y := nI (gN A (122 + 2 * k + 1))) (by rw [H1.1]; exact v3) ?_
      refine a_cmpN_eq rfl rfl rfl (by omega) (by omega) (fun c_48 => False.elim (by omega)) (fun _ => ?_)
      refine a_iconst (v := (nI 0)) rfl rfl rfl ?_
      exact a_zret rfl rfl (Or.inl rfl)
theorem r_isSeen (ok : okA A) (s c : Nat) (hs : s ≤ 15) {h : Nat → Nat → Int32} {gl : Nat → Nat → Int64} (H : RI A B TX h) (hX : ∀ e, e < 30 → h 91 e = frF (frA A) (nI c) e) : ∃ h' gl', avE 5 305 [.ref 81, .int (nI s)] (sX L t lt rt rp sw h gl) (some (.int (bB (prS (lcA TX A s c) A 122 (gN A 6)))), sX L t lt rt rp sw h' gl') ∧ CF [87, 90] h h' := by
  obtain ⟨h', gl', Z, c'⟩ := l_isSeen (L := L) (t := t) (lt := lt) (rt := rt) (rp := rp) (sw := sw) ok s c hs (gN A 6) 0 h gl (by omega) H hX rfl
  refine ⟨h', gl', ?_, c'⟩
  show avA _ 305 0 [.ref 81, .int (nI (s)), mvU] [] _ _
  refine a_iconst (v := (nI 0)) rfl rfl rfl ?_
  refine a_istore_2 rfl rfl rfl ?_
  exact Z
theorem l_rfit1 (ok : okA A) (w : Int32) (c : Nat) (hc : c < 30) (hfr : frA A c = true) (N0 : Nat) (hN : N0 ≤ 16 * c) (m : Nat) : ∀ (s : Nat) (h : Nat → Nat → Int32) (gl : Nat → Nat → Int64), s + m = 16 → RI A B TX h → (∀ e, e < 30 → h 91 e = frF (frA A) (nI c) e) → ∃ h' gl', CF [87, 90] h h' ∧ ∀ r : Option Value × mvSt, avA 6 304 93 [.ref 81, .int w, .int (nI (N0 + cnt 16 (fun s => ftM TX A s c))), .int (bsI 30 (cP (ftM TX A) c 16)), .int (bsI 16 (zP (ftM TX A) c 16)), .int (nI c), .int (nI 16)] [] (sX L t lt rt rp sw h' gl') r → avA 6 304 49 [.ref 81, .int w, .int (nI (N0 + cnt s (fun s => ftM TX A s c))), .int (bsI 30 (cP (ftM TX A) c s)), .int (bsI 16 (zP (ftM TX A) c s)), .int (nI c), .int (nI s)] [] (sX L t lt rt rp sw h gl) r := by
  induction m with
  | zero =>
    intro s h gl hs H hX
    have e : s = 16 := by omega
    subst e
    refine ⟨h, gl, CF_refl, fun r Z => ?_⟩
    refine a_iload_6 rfl rfl ?_
    refine a_bipush (v := (nI 15)) rfl rfl rfl ?_
    refine a_cmpN_gt rfl rfl rfl (by omega) (by omega) (fun _ => ?_) (fun c_53 => absurd c_53 (by decide))
    exact Z
  | succ m ih =>
    intro s h gl hs H hX
    obtain ⟨h1, gl1, C1, c1⟩ := r_isSeen (L := L) (t := t) (lt := lt) (rt := rt) (rp := rp) (sw := sw) (gl := gl) ok s c (by omega) H hX
    have em : ftM TX A s c = prS (lcA TX A s c) A 122 (gN A 6) := by unfold ftM; rw [hfr]; rfl
    rw [← em] at C1
    obtain ⟨h', gl', c2, K⟩ := ih (s + 1) h1 gl1 (by omega) (RI_cf H rfl c1) (by rw [c1 91 rfl]; exact hX)
    refine ⟨h', gl', CF_trans c1 c2, fun r Z => ?_⟩
    have A1 := K r Z
    rw [cnt] at A1
    cases g : ftM TX A s c with
    | true =>
      rw [g] at C1 A1
      rw [← cP_T g hc, ← zP_T g (by omega)] at A1
      refine a_iload_6 rfl rfl ?_
      refine a_bipush (v := (nI 15)) rfl rfl rfl ?_
      refine a_cmpN_gt rfl rfl rfl (by omega) (by omega) (fun c_53 => False.elim (by omega)) (fun _ => ?_)
      refine a_aload_0 rfl rfl ?_
      refine a_iload_6 rfl rfl ?_
      refine a_virtI rfl rfl (C1) (Nat.le_of_ble_eq_true rfl) ⟨rfl, rfl, rfl, rfl⟩ rfl rfl rfl (Nat.le_of_ble_eq_true rfl) rfl rfl ?_
      refine a_ifN_ne rfl rfl rfl (by decide) (fun _ => ?_) (fun c_62 => False.elim (absurd c_62 (by decide)))
      refine a_iinc_2 rfl rfl (nI_inc _ _) rfl ?_
      refine a_iload_3 rfl rfl ?_
      refine a_iconst (v := (nI 1)) rfl rfl rfl ?_
      refine a_iload_5 rfl rfl ?_
      refine a_ishl rfl rfl ?_
      refine a_ior rfl rfl ?_
      refine a_istore_3 rfl rfl rfl ?_
      refine a_iload_4 rfl rfl ?_
      refine a_iconst (v := (nI 1)) rfl rfl rfl ?_
      refine a_iload_6 rfl rfl ?_
      refine a_ishl rfl rfl ?_
      refine a_ior rfl rfl ?_
      refine a_istore_4 rfl rfl rfl ?_
      refine a_iinc_6 rfl rfl (nI_inc _ _) rfl ?_
      refine a_goto rfl rfl ?_
      exact A1
    | false =>
      rw [g] at C1 A1
      rw [← cP_F g, ← zP_F g] at A1
      refine a_iload_6 rfl rfl ?_
      refine a_bipush (v := (nI 15)) rfl rfl rfl ?_
      refine a_cmpN_gt rfl rfl rfl (by omega) (by omega) (fun c_53 => False.elim (by omega)) (fun _ => ?_)
      refine a_aload_0 rfl rfl ?_
      refine a_iload_6 rfl rfl ?_
      refine a_virtI rfl rfl (C1) (Nat.le_of_ble_eq_true rfl) ⟨rfl, rfl, rfl, rfl⟩ rfl rfl rfl (Nat.le_of_ble_eq_true rfl) rfl rfl ?_
      refine a_ifN_ne rfl rfl rfl (by decide) (fun c_62 => False.elim (absurd c_62 (by decide))) (fun _ => ?_)
      refine a_goto rfl rfl ?_
      refine a_iinc_6 rfl rfl (nI_inc _ _) rfl ?_
      refine a_goto rfl rfl ?_
      exact A1
theorem l_rfit2 (ok : okA A) (w : Int32) (m : Nat) : ∀ (c : Nat) (y6 : Value) (h : Nat → Nat → Int32) (gl : Nat → Nat → Int64), c + m = 30 → RI A B TX h → ∃ h' gl', CF [87, 90, 91] h h' ∧ ∀ r : Option Value × mvSt, (∀ y6, avA 6 304 99 [.ref 81, .int w, .int (nI (sm2 (ftM TX A) 16 30)), .int (bsI 30 (cP (ftM TX A) 30 0)), .int (bsI 16 (zP (ftM TX A) 30 0)), .int (nI 30), y6] [] (sX L t lt rt rp sw h' gl') r) → avA 6 304 21 [.ref 81, .int w, .int (nI (sm2 (ftM TX A) 16 c)), .int (bsI 30 (cP (ftM TX A) c 0)), .int (bsI 16 (zP (ftM TX A) c 0)), .int (nI c), y6] [] (sX L t lt rt rp sw h gl) r := by
  induction m with
  | zero =>
    intro c y6 h gl hc H
    have e : c = 30 := by omega
    subst e
    refine ⟨h, gl, CF_refl, fun r Z => ?_⟩
    refine a_iload_5 rfl rfl ?_
    refine a_bipush (v := (nI 30)) rfl rfl rfl ?_
    refine a_cmpN_ge rfl rfl rfl (by omega) (by omega) (fun _ => ?_) (fun c_25 => absurd c_25 (by decide))
    exact Z _
  | succ m ih =>
    intro c y6 h gl hc H
    have Cf := r_isFreeN (L := L) (t := t) (lt := lt) (rt := rt) (rp := rp) (sw := sw) (h := h) (gl := gl) c (by omega)
    rw [H.1] at Cf
    cases q : frA A c with
    | false =>
      have no : ∀ s, ftM TX A s c = false := fun s => by unfold ftM; rw [q]; rfl
      obtain ⟨h', gl', c2, K⟩ := ih (c + 1) y6 h gl (by omega) H
      refine ⟨h', gl', c2, fun r Z => ?_⟩
      have A1 := K r Z
      rw [sm2, cnt_eq0.mpr (fun s _ => no s), Nat.add_zero, ← cP_no no, ← zP_no no] at A1
      refine a_iload_5 rfl rfl ?_
      refine a_bipush (v := (nI 30)) rfl rfl rfl ?_
      refine a_cmpN_ge rfl rfl rfl (by omega) (by omega) (fun c_25 => False.elim (by omega)) (fun _ => ?_)
      refine a_aload_0 rfl rfl ?_
      refine a_iload_5 rfl rfl ?_
      refine a_virtI rfl rfl (Cf) (Nat.le_of_ble_eq_true rfl) ⟨rfl, rfl, rfl, rfl⟩ rfl rfl rfl (Nat.le_of_ble_eq_true rfl) rfl rfl ?_
      refine a_ifb_ne rfl rfl rfl (fun c_34 => by first | exact absurd c_34 (by rw [q]; decide) | exact absurd (by rw [q]; decide) c_34) (fun _ => ?_)
      refine a_goto rfl rfl ?_
      refine a_iinc_5 rfl rfl (nI_inc _ _) rfl ?_
      refine a_goto rfl rfl ?_
      exact A1
    | true =>
      have H1 : RI A B TX (va_up h 91 (rw1 30 (farA (h 82) (nI c)) (h 91))) := RI_cf H (S := [91]) rfl (CF_up CF_refl rfl)
      obtain ⟨h1, gl1, c1, K1⟩ := l_rfit1 (L := L) (t := t) (lt := lt) (rt := rt) (rp := rp) (sw := sw) ok w c (by omega) q (sm2 (ftM TX A) 16 c) (sm2_le _ _) 16 0 _ gl rfl H1 (fun e he => by rw [va_up_self, rw1_lt he, H.1]; rfl)
      obtain ⟨h', gl', c2, K⟩ := ih (c + 1) (.int (nI 16)) h1 gl1 (by omega) (RI_cf H1 rfl c1)
      refine ⟨h', gl', CF_trans (CF_up CF_refl rfl) (CF_trans (CF_mono (by decide) c1) c2), fun r Z => ?_⟩
      have A1 := K r Z
      rw [sm2, ← cP_n, ← zP_n] at A1
      refine a_iload_5 rfl rfl ?_
      refine a_bipush (v := (nI 30)) rfl rfl rfl ?_
      refine a_cmpN_ge rfl rfl rfl (by omega) (by omega) (fun c_25 => False.elim (by omega)) (fun _ => ?_)
      refine a_aload_0 rfl rfl ?_
      refine a_iload_5 rfl rfl ?_
      refine a_virtI rfl rfl (Cf) (Nat.le_of_ble_eq_true rfl) ⟨rfl, rfl, rfl, rfl⟩ rfl rfl rfl (Nat.le_of_ble_eq_true rfl) rfl rfl ?_
      refine a_ifb_ne rfl rfl rfl (fun _ => ?_) (fun c_34 => by first | exact absurd q c_34 | exact absurd c_34 q)
      refine a_aload_0 rfl rfl ?_
      refine a_iload_5 rfl rfl ?_
      refine a_virt0 rfl rfl (r_layFar (nI c)) (Nat.le_of_ble_eq_true rfl) ⟨rfl, rfl, rfl, rfl⟩ rfl rfl rfl (Nat.le_of_ble_eq_true rfl) rfl rfl ?_
      refine a_iconst (v := (nI 0)) rfl rfl rfl ?_
      refine a_istore_6 rfl rfl rfl ?_
      refine K1 _ ?_
      refine a_iinc_5 rfl rfl (nI_inc _ _) rfl ?_
      refine a_goto rfl rfl ?_
      exact A1
theorem p_fits (hA : okA A) (w : Int32) : ∃ r, opP 480 5 146 [.ref 7, .int w] 6 304 [.ref 81, .int w] TX A B r A B := by
  by_cases hw : 0 ≤ w.toInt ∧ w.toInt ≤ 2
  · refine ⟨fitV (ftM TX A) w, ?_, ?_, hA, rfl⟩
    · intro L t lt rt rp sw h gl R H hR
      obtain ⟨h', lt', R', c, H', r1, r2, K⟩ := l_cfits (L := L) (t := t) (rt := rt) (rp := rp) (sw := sw) (gl := gl) w 16 0 R mvU lt h rfl H (by omega)
      refine ⟨h', lt', R', sw, ?_, CF_cl rfl c, H', r1, r2⟩
      have Zf : ∀ y6, avA 5 146 68 [.ref 7, .int w, .int (nI (sm1 (ftM TX A) 30 16)), .int (bsI 30 (fun c => orN 16 (fun s => ftM TX A s c))), .int (bsI 16 (fun s => orN 30 (ftM TX A s))), .int (nI 16), y6] [] (sX L t lt' rt rp sw h' gl) (some (.int (fitV (ftM TX A) w)), sX L t lt' rt rp sw h' gl) := by
        intro y6
        refine a_iload_1 rfl rfl ?_
        refine a_if_ne rfl rfl rfl (fun c_69 => ?_) (fun c_69 => ?_)
        · refine a_iload_1 rfl rfl ?_
          refine a_iconst (v := (nI 1)) rfl rfl rfl ?_
          refine a_cmp_ne rfl rfl rfl (fun c_76 => ?_) (fun c_76 => ?_)
          · refine a_iload_4 rfl rfl ?_
            refine av_to (a_iret rfl rfl) ?_
            unfold fitV
            first | rw [if_pos (show w = nI 0 from c_69)] | rw [if_neg (show ¬ w = nI 0 from c_69), if_pos c_76] | rw [if_neg (show ¬ w = nI 0 from c_69), if_neg c_76]
          · refine a_iload_3 rfl rfl ?_
            refine a_goto rfl rfl ?_
            refine av_to (a_iret rfl rfl) ?_
            unfold fitV
            first | rw [if_pos (show w = nI 0 from c_69)] | rw [if_neg (show ¬ w = nI 0 from c_69), if_pos c_76] | rw [if_neg (show ¬ w = nI 0 from c_69), if_neg c_76]
        · refine a_iload_2 rfl rfl ?_
          refine av_to (a_iret rfl rfl) ?_
          unfold fitV
          first | rw [if_pos (show w = nI 0 from c_69)] | rw [if_neg (show ¬ w = nI 0 from c_69), if_pos c_76] | rw [if_neg (show ¬ w = nI 0 from c_69), if_neg c_76]
      have A1 := K _ Zf
      rw [show bsI 30 (fun c => orN 0 (fun s => ftM TX A s c)) = nI 0 from bs_zero 30] at A1
      show avA _ 146 0 [.ref 7, .int (w), mvU, mvU, mvU, mvU, mvU] [] _ _
      refine a_iload_1 rfl rfl ?_
      refine a_iconst (v := (nI 2)) rfl rfl rfl ?_
      refine a_statI rfl rfl (e_isWithin w 2 (by omega)) (Nat.le_of_ble_eq_true rfl) ⟨rfl, rfl, rfl⟩ rfl rfl rfl (Nat.le_of_ble_eq_true rfl) rfl ?_
      refine a_ifb_ne rfl rfl rfl (fun _ => ?_) (fun c_5 => by first | exact absurd hw c_5 | exact absurd c_5 hw)
      refine a_iconst (v := (nI 0)) rfl rfl rfl ?_
      refine a_istore_2 rfl rfl rfl ?_
      refine a_iconst (v := (nI 0)) rfl rfl rfl ?_
      refine a_istore_3 rfl rfl rfl ?_
      refine a_iconst (v := (nI 0)) rfl rfl rfl ?_
      refine a_istore_4 rfl rfl rfl ?_
      refine a_iconst (v := (nI 0)) rfl rfl rfl ?_
      refine a_istore_5 rfl rfl rfl ?_
      exact A1
    · intro L t lt rt rp sw h gl ok H
      obtain ⟨h', gl', c, K⟩ := l_rfit2 (L := L) (t := t) (lt := lt) (rt := rt) (rp := rp) (sw := sw) ok w 30 0 mvU h gl rfl H
      refine ⟨h', gl', ?_, CF_rf rfl c, fun j hj => by rw [c 81 rfl], RI_cf H rfl c⟩
      have e1 : bsI 30 (cP (ftM TX A) 30 0) = bsI 30 (fun c => orN 16 (fun s => ftM TX A s c)) := bs_ext fun j hj => by unfold cP; simp [hj, orN]
      have e2 : bsI 16 (zP (ftM TX A) 30 0) = bsI 16 (fun s => orN 30 (ftM TX A s)) := bs_ext fun j hj => by unfold zP; simp
      have Zf : ∀ y6, avA 6 304 99 [.ref 81, .int w, .int (nI (sm2 (ftM TX A) 16 30)), .int (bsI 30 (cP (ftM TX A) 30 0)), .int (bsI 16 (zP (ftM TX A) 30 0)), .int (nI 30), y6] [] (sX L t lt rt rp sw h' gl') (some (.int (fitV (ftM TX A) w)), sX L t lt rt rp sw h' gl') := by
        intro y6
        rw [e1, e2, ← sm12]
        refine a_iload_1 rfl rfl ?_
        refine a_if_ne rfl rfl rfl (fun c_100 => ?_) (fun c_100 => ?_)
        · refine a_iload_1 rfl rfl ?_
          refine a_iconst (v := (nI 1)) rfl rfl rfl ?_
          refine a_cmp_ne rfl rfl rfl (fun c_109 => ?_) (fun c_109 => ?_)
          · refine a_iload_4 rfl rfl ?_
            refine av_to (a_iret rfl rfl) ?_
            unfold fitV
            first | rw [if_pos (show w = nI 0 from c_100)] | rw [if_neg (show ¬ w = nI 0 from c_100), if_pos c_109] | rw [if_neg (show ¬ w = nI 0 from c_100), if_neg c_109]
          · refine a_iload_3 rfl rfl ?_
            refine a_goto rfl rfl ?_
            refine av_to (a_iret rfl rfl) ?_
            unfold fitV
            first | rw [if_pos (show w = nI 0 from c_100)] | rw [if_neg (show ¬ w = nI 0 from c_100), if_pos c_109] | rw [if_neg (show ¬ w = nI 0 from c_100), if_neg c_109]
        · refine a_iload_2 rfl rfl ?_
          refine a_goto rfl rfl ?_
          refine av_to (a_iret rfl rfl) ?_
          unfold fitV
          first | rw [if_pos (show w = nI 0 from c_100)] | rw [if_neg (show ¬ w = nI 0 from c_100), if_pos c_109] | rw [if_neg (show ¬ w = nI 0 from c_100), if_neg c_109]
      have A1 := K _ Zf
      rw [show bsI 30 (cP (ftM TX A) 0 0) = nI 0 from (bs_ext fun j hj => by unfold cP; simp [orN]).trans (bs_zero 30), show bsI 16 (zP (ftM TX A) 0 0) = nI 0 from (bs_ext fun j hj => by unfold zP; simp [orN]).trans (bs_zero 16)] at A1
      show avA _ 304 0 [.ref 81, .int (w), mvU, mvU, mvU, mvU, mvU] [] _ _
      refine a_iload_1 rfl rfl ?_
      refine a_iconst (v := (nI 0)) rfl rfl rfl ?_
      refine a_iconst (v := (nI 2)) rfl rfl rfl ?_
      refine a_statI rfl rfl (r_isIn0 w 0 2 (by omega) (by omega)) (Nat.le_of_ble_eq_true rfl) ⟨rfl, rfl, rfl⟩ rfl rfl rfl (Nat.le_of_ble_eq_true rfl) rfl ?_
      refine a_ifb_ne rfl rfl rfl (fun _ => ?_) (fun c_6 => by first | exact absurd hw c_6 | exact absurd c_6 hw)
      refine a_iconst (v := (nI 0)) rfl rfl rfl ?_
      refine a_istore_2 rfl rfl rfl ?_
      refine a_iconst (v := (nI 0)) rfl rfl rfl ?_
      refine a_istore_3 rfl rfl rfl ?_
      refine a_iconst (v := (nI 0)) rfl rfl rfl ?_
      refine a_istore_4 rfl rfl rfl ?_
      refine a_iconst (v := (nI 0)) rfl rfl rfl ?_
      refine a_istore_5 rfl rfl rfl ?_
      exact A1
  · refine ⟨-1, ?_, ?_, hA, rfl⟩
    · intro L t lt rt rp sw h gl R H hR
      refine ⟨h, lt, R, sw, ?_, CF_refl, H, by omega, by omega⟩
      show avA _ 146 0 [.ref 7, .int (w), mvU, mvU, mvU, mvU, mvU] [] _ _
      refine a_iload_1 rfl rfl ?_
      refine a_iconst (v := (nI 2)) rfl rfl rfl ?_
      refine a_statI rfl rfl (e_isWithin w 2 (by omega)) (Nat.le_of_ble_eq_true rfl) ⟨rfl, rfl, rfl⟩ rfl rfl rfl (Nat.le_of_ble_eq_true rfl) rfl ?_
      refine a_ifb_ne rfl rfl rfl (fun c_5 => by first | exact absurd c_5 hw | exact absurd hw c_5) (fun _ => ?_)
      refine a_iconst (v := (-1)) rfl rfl rfl ?_
      exact a_iret rfl rfl
    · intro L t lt rt rp sw h gl ok H
      refine ⟨h, gl, ?_, CF_refl, fun _ _ => rfl, H⟩
      show avA _ 304 0 [.ref 81, .int (w), mvU, mvU, mvU, mvU, mvU] [] _ _
      refine a_iload_1 rfl rfl ?_
      refine a_iconst (v := (nI 0)) rfl rfl rfl ?_
      refine a_iconst (v := (nI 2)) rfl rfl rfl ?_
      refine a_statI rfl rfl (r_isIn0 w 0 2 (by omega) (by omega)) (Nat.le_of_ble_eq_true rfl) ⟨rfl, rfl, rfl⟩ rfl rfl rfl (Nat.le_of_ble_eq_true rfl) rfl ?_
      refine a_ifb_ne rfl rfl rfl (fun c_6 => by first | exact absurd c_6 hw | exact absurd hw c_6) (fun _ => ?_)
      refine a_iconst (v := (-1)) rfl rfl rfl ?_
      exact a_iret rfl rfl
end FR
