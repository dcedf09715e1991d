/-! WHAT WOULD TELL: ask -/
def tlM (TX : Nat → Txt) (A : Nat → Int32) (e v s c : Nat) : Bool := ftM TX A s c && decide (lcA TX A s c e = v)
/-- lights told at e: sizes first -/
def uC (TX : Nat → Txt) (A : Nat → Int32) (s c e : Nat) : Nat → Bool := fun v => orN s (fun s' => orN 30 (tlM TX A e v s')) || orN c (tlM TX A e v s)
/-- lights told at e: cells first -/
def uR (TX : Nat → Txt) (A : Nat → Int32) (c s e : Nat) : Nat → Bool := fun v => orN c (fun c' => orN 16 (fun s' => tlM TX A e v s' c')) || orN s (fun s' => tlM TX A e v s' c)
theorem uRC_same (TX : Nat → Txt) (A : Nat → Int32) (e v : Nat) : uR TX A 30 0 e v = uC TX A 16 0 e v := by
  unfold uR uC
  rw [show orN 0 (fun s' => tlM TX A e v s' 30) = false from rfl, show orN 0 (tlM TX A e v 16) = false from rfl, Bool.or_false, Bool.or_false, Bool.eq_iff_iff, orN_iff, orN_iff]
  constructor
  · rintro ⟨c, hc, h⟩
    obtain ⟨s, hs, q⟩ := (orN_iff _ _).mp h
    exact ⟨s, hs, (orN_iff _ _).mpr ⟨c, hc, q⟩⟩
  · rintro ⟨s, hs, h⟩
    obtain ⟨c, hc, q⟩ := (orN_iff _ _).mp h
    exact ⟨c, hc, (orN_iff _ _).mpr ⟨s, hs, q⟩⟩
theorem uC_T {TX : Nat → Txt} {A : Nat → Int32} {s c e : Nat} (h : ftM TX A s c = true) : bsI 16 (uC TX A s c e) ||| nI 1 <<< (nI (lcA TX A s c e) &&& 31) = bsI 16 (uC TX A s (c + 1) e) := by
  have l := lcA_le TX A s c e
  rw [bs_one (n := 16) (by omega) (by omega), bs_or (by omega)]
  refine bs_ext fun v hv => ?_
  unfold uC
  rw [orN, Bool.or_assoc]
  congr 2
  unfold tlM
  rw [h, Bool.true_and]
  exact decide_eq_decide.mpr ⟨fun q => q.symm, fun q => q.symm⟩
theorem uC_F {TX : Nat → Txt} {A : Nat → Int32} {s c e : Nat} (h : ftM TX A s c = false) : uC TX A s c e = uC TX A s (c + 1) e := by
  funext v
  unfold uC
  rw [orN]
  unfold tlM
  rw [h, Bool.false_and, Bool.or_false]
theorem uC_n {TX : Nat → Txt} {A : Nat → Int32} {s e : Nat} : uC TX A s 30 e = uC TX A (s + 1) 0 e := by
  funext v
  unfold uC
  show _ = ((orN s (fun s' => orN 30 (tlM TX A e v s')) || orN 30 (tlM TX A e v s)) || false)
  rw [Bool.or_false]
theorem uR_T {TX : Nat → Txt} {A : Nat → Int32} {s c e : Nat} (h : ftM TX A s c = true) : bsI 16 (uR TX A c s e) ||| nI 1 <<< (nI (lcA TX A s c e) &&& 31) = bsI 16 (uR TX A c (s + 1) e) := by
  have l := lcA_le TX A s c e
  rw [bs_one (n := 16) (by omega) (by omega), bs_or (by omega)]
  refine bs_ext fun v hv => ?_
  unfold uR
  rw [orN, Bool.or_assoc]
  congr 2
  unfold tlM
  rw [h, Bool.true_and]
  exact decide_eq_decide.mpr ⟨fun q => q.symm, fun q => q.symm⟩
theorem uR_F {TX : Nat → Txt} {A : Nat → Int32} {s c e : Nat} (h : ftM TX A s c = false) : uR TX A c s e = uR TX A c (s + 1) e := by
  funext v
  unfold uR
  rw [orN]
  unfold tlM
  rw [h, Bool.false_and, Bool.or_false]
theorem uR_n {TX : Nat → Txt} {A : Nat → Int32} {c e : Nat} : uR TX A c 16 e = uR TX A (c + 1) 0 e := by
  funext v
  unfold uR
  show _ = ((orN c (fun c' => orN 16 (fun s' => tlM TX A e v s' c')) || orN 16 (fun s' => tlM TX A e v s' c)) || false)
  rw [Bool.or_false]
theorem uR_no {TX : Nat → Txt} {A : Nat → Int32} {c e : Nat} (h : ∀ s, ftM TX A s c = false) : uR TX A c 0 e = uR TX A (c + 1) 0 e := by
  rw [← uR_n]
  funext v
  unfold uR
  have z : orN 16 (fun s' => tlM TX A e v s' c) = false := orN_F (fun s _ => by unfold tlM; rw [h s]; rfl)
  rw [z]
  rfl
/-- how many lights are told at a cell that is no wall -/
def tlN (TX : Nat → Txt) (A : Nat → Int32) (e : Nat) : Nat := if frA A e = true then cnt 16 (uC TX A 16 0 e) else 0
theorem tlN_le (TX : Nat → Txt) (A : Nat → Int32) (e : Nat) : tlN TX A e ≤ 16 := by
  unfold tlN
  split
  · exact cnt_le _ _
  · omega
theorem br_le (f : Nat → Nat) (n b : Nat) (h : ∀ c, f c ≤ b) : (brS f n).2 ≤ b := by
  induction n with
  | zero => exact Nat.zero_le _
  | succ n ih => rw [brS]; split; exact h n; exact ih
theorem br_v (f : Nat → Nat) (n : Nat) : (brS f n = (-1, 0)) ∨ ∃ k, k < n ∧ brS f n = (nI k, f k) := by
  induction n with
  | zero => exact Or.inl rfl
  | succ n ih =>
    rw [brS]
    split
    · exact Or.inr ⟨n, by omega, rfl⟩
    · rcases ih with h | ⟨k, hk, h⟩
      · exact Or.inl h
      · exact Or.inr ⟨k, by omega, h⟩
section AK2
variable {L t : Nat} {rt rp : Option Nat} {sw : Bool} {gl : Nat → Nat → Int64} {A B : Nat → Int32} {TX : Nat → Txt}
theorem l_gather {lt : Option Nat} {R : Nat} (s c : Nat) (hq : ftM TX A s c = true) (m : Nat) : ∀ (e : Nat) (h : Nat → Nat → Int32), e + m = 30 → LW (flA TX A) A h t lt (nI c) R (gN A 8) s → (∀ j, j < 30 → h 80 j = bsI 16 (if j < e then uC TX A s (c + 1) j else uC TX A s c j)) → ∃ h', avA 3 150 2 [.ref 8, .ref 80, .int (nI e)] [] (sX L t lt rt rp sw h gl) (none, sX L t lt rt rp sw h' gl) ∧ CF [34, 35, 39, 80] h h' ∧ LW (flA TX A) A h' t lt (nI c) R (gN A 8) s ∧ ∀ j, j < 30 → h' 80 j = bsI 16 (uC TX A s (c + 1) j) := by
  induction m with
  | zero =>
    intro e h he W hj
    have ee : e = 30 := by omega
    subst ee
    refine ⟨h, ?_, CF_refl, W, fun j hj' => by rw [hj j hj', if_pos hj']⟩
    refine a_iload_2 rfl rfl ?_
    refine a_bipush (v := (nI 30)) rfl rfl rfl ?_
    refine a_cmpN_ge rfl rfl rfl (by omega) (by omega) (fun _ => ?_) (fun c_5 => absurd c_5 (by decide))
    exact a_vret rfl rfl
  | succ m ih =>
    intro e h he W hj
    obtain ⟨h1, C, c1, W1⟩ := e_lightL (L := L) (rt := rt) (rp := rp) (sw := sw) (gl := gl) W (nI e)
    rw [ltC_N _ _ _ _ _ (by omega)] at C
    have C' : avE 2 106 [.ref 8, .int (nI e)] (sX L t lt rt rp sw h gl) (some (.int (nI (lcA TX A s c e))), sX L t lt rt rp sw h1 gl) := C
    have z : h 80 e = bsI 16 (uC TX A s c e) := by rw [hj e (by omega), if_neg (by omega)]
    have c2 : CF [80] h1 (mvPut h1 80 e (bsI 16 (uC TX A s (c + 1) e))) := CF_put CF_refl rfl
    obtain ⟨h', Z, c3, W', k'⟩ := ih (e + 1) (mvPut h1 80 e (bsI 16 (uC TX A s (c + 1) e))) (by omega) (LW_cf rfl (fun p hp => by simp; omega) W1 c2 W1.2.1) (fun j hj' => by
      show va_up (h1 80) e _ j = _
      rw [c1 80 rfl]
      by_cases q : j = e
      · subst q; rw [va_up_self, if_pos (by omega)]
      · rw [va_up_ne _ _ q, hj j hj']
        by_cases q2 : j < e
        · rw [if_pos q2, if_pos (by omega)]
        · rw [if_neg q2, if_neg (by omega)])
    refine ⟨h', ?_, CF_trans (CF_mono (by decide) c1) (CF_trans (CF_mono (by decide) c2) c3), W', k'⟩
    refine a_iload_2 rfl rfl ?_
    refine a_bipush (v := (nI 30)) rfl rfl rfl ?_
    refine a_cmpN_ge rfl rfl rfl (by omega) (by omega) (fun c_5 => False.elim (by omega)) (fun _ => ?_)
    refine a_iload_2 rfl rfl ?_
    refine a_aload_1 rfl rfl ?_
    refine a_alen rfl rfl rfl rfl ?_
    refine a_as (y := nI (30)) rfl ?_
    refine a_cmpN_ge rfl rfl rfl (by omega) (by omega) (fun c_11 => False.elim (by omega)) (fun _ => ?_)
    refine a_aload_1 rfl rfl ?_
    refine a_iload_2 rfl rfl ?_
    refine a_dup2 rfl rfl rfl ?_
    refine a_iald rfl rfl (Or.inl rfl) rfl (by omega) (by decide) ?_
    refine a_as (y := bsI 16 (uC TX A s c e)) z ?_
    refine a_iconst (v := (nI 1)) rfl rfl rfl ?_
    refine a_aload_0 rfl rfl ?_
    refine a_iload_2 rfl rfl ?_
    refine a_virtI rfl rfl (C') (Nat.le_of_ble_eq_true rfl) ⟨rfl, rfl, rfl, rfl⟩ rfl rfl rfl (Nat.le_of_ble_eq_true rfl) rfl rfl ?_
    refine a_ishl rfl rfl ?_
    refine a_ior rfl rfl ?_
    refine a_as (y := bsI 16 (uC TX A s (c + 1) e)) (uC_T hq) ?_
    refine a_iast rfl rfl rfl rfl (by omega) (by decide) ?_
    refine a_iinc_2 rfl rfl (nI_inc _ _) rfl ?_
    refine a_goto rfl rfl ?_
    exact Z
theorem l_cask1 (s : Nat) (hs : s ≤ 15) (m : Nat) : ∀ (c R : Nat) (lt : Option Nat) (h : Nat → Nat → Int32), c + m = 30 → CI A B TX R t lt h → R + m < 67108864 → (∀ j, j < 30 → h 80 j = bsI 16 (uC TX A s c j)) → ∃ h' lt' R', CF clS h h' ∧ CI A B TX R' t lt' h' ∧ R ≤ R' ∧ R' ≤ R + m ∧ (∀ j, j < 30 → h' 80 j = bsI 16 (uC TX A s 30 j)) ∧ ∀ r : Option Value × mvSt, avA 5 149 91 [.ref 7, .int (nI s), .int (bsI 30 (ftM TX A s)), .int (nI 30)] [] (sX L t lt' rt rp sw h' gl) r → avA 5 149 37 [.ref 7, .int (nI s), .int (bsI 30 (ftM TX A s)), .int (nI c)] [] (sX L t lt rt rp sw h gl) r := by
  induction m with
  | zero =>
    intro c R lt h hc H hR hj
    have e : c = 30 := by omega
    subst e
    refine ⟨h, lt, R, CF_refl, H, by omega, by omega, hj, fun r Z => ?_⟩
    refine a_iload_3 rfl rfl ?_
    refine a_bipush (v := (nI 30)) rfl rfl rfl ?_
    refine a_cmpN_ge rfl rfl rfl (by omega) (by omega) (fun _ => ?_) (fun c_40 => absurd c_40 (by decide))
    exact Z
  | succ m ih =>
    intro c R lt h hc H hR hj
    obtain ⟨e8, l8⟩ := CI_14 H
    have etb : tb (bsI 30 (ftM TX A s)) c = ftM TX A s c := by rw [tb_bs (by omega)]; simp; omega
    cases q : ftM TX A s c with
    | false =>
      obtain ⟨h', lt', R', c1, H', r1, r2, j', K⟩ := ih (c + 1) R lt h (by omega) H (by omega) (fun j hj' => by rw [← uC_F q]; exact hj j hj')
      refine ⟨h', lt', R', c1, H', by omega, by omega, j', fun r Z => ?_⟩
      have A1 := K r Z
      refine a_iload_3 rfl rfl ?_
      refine a_bipush (v := (nI 30)) rfl rfl rfl ?_
      refine a_cmpN_ge rfl rfl rfl (by omega) (by omega) (fun c_40 => False.elim (by omega)) (fun _ => ?_)
      refine a_iload_2 rfl rfl ?_
      refine a_iload_3 rfl rfl ?_
      refine a_statI rfl rfl (e_has (bsI 30 (ftM TX A s)) c (by omega)) (Nat.le_of_ble_eq_true rfl) ⟨rfl, rfl, rfl⟩ rfl rfl rfl (Nat.le_of_ble_eq_true rfl) rfl ?_
      refine a_ifb_eq rfl rfl rfl (fun _ => ?_) (fun c_48 => by first | exact absurd (by rw [etb, q]; decide) c_48 | exact absurd c_48 (by rw [etb, q]; decide))
      refine a_iinc_3 rfl rfl (nI_inc _ _) rfl ?_
      refine a_goto rfl rfl ?_
      exact A1
    | true =>
      have Cr := e_ruling (L := L) (rt := rt) (rp := rp) (sw := sw) (gl := gl) H
      obtain ⟨h1, R1, C1, c1, W1, H1, r1, r2⟩ := C_look (L := L) (rt := rt) (rp := rp) (sw := sw) (gl := gl) H (bOK_rl (TX := TX) H.1) (nI c) (gN A 8) s (by omega) l8 hs (Or.inr (inC_nI (by omega)))
      obtain ⟨h2, Z2, c2, W2, k2⟩ := l_gather (L := L) (rt := rt) (rp := rp) (sw := sw) (gl := gl) s c q 30 0 h1 rfl W1 (fun j hj' => by rw [c1 80 rfl, hj j hj', if_neg (by omega)])
      have C2 : avE 3 150 [.ref 8, .ref 80] (sX L t (rlO A) rt rp sw h1 gl) (none, sX L t (rlO A) rt rp sw h2 gl) := by
        show avA _ 150 0 [.ref 8, .ref 80, mvU] [] _ _
        refine a_iconst (v := (nI 0)) rfl rfl rfl ?_
        refine a_istore_2 rfl rfl rfl ?_
        exact Z2
      have H2 : CI A B TX R1 t (rlO A) h2 := CI_law H1 rfl rfl rfl c2 (LW_LI H1 W2)
      obtain ⟨h', lt', R', c3, H', r3, r4, j', K⟩ := ih (c + 1) R1 (rlO A) h2 (by omega) H2 (by omega) k2
      refine ⟨h', lt', R', CF_trans (CF_cl rfl c1) (CF_trans (CF_cl rfl c2) c3), H', by omega, by omega, j', fun r Z => ?_⟩
      have A1 := K r Z
      cases hro : rlO A with
      | none =>
        rw [hro] at Cr C1 C2 A1
        refine a_iload_3 rfl rfl ?_
        refine a_bipush (v := (nI 30)) rfl rfl rfl ?_
        refine a_cmpN_ge rfl rfl rfl (by omega) (by omega) (fun c_40 => False.elim (by omega)) (fun _ => ?_)
        refine a_iload_2 rfl rfl ?_
        refine a_iload_3 rfl rfl ?_
        refine a_statI rfl rfl (e_has (bsI 30 (ftM TX A s)) c (by omega)) (Nat.le_of_ble_eq_true rfl) ⟨rfl, rfl, rfl⟩ rfl rfl rfl (Nat.le_of_ble_eq_true rfl) rfl ?_
        refine a_ifb_eq rfl rfl rfl (fun c_48 => by first | exact absurd c_48 (not_not_intro (by rw [etb, q])) | exact absurd (not_not_intro (by rw [etb, q])) c_48) (fun _ => ?_)
        refine a_aload_0 rfl rfl ?_
        refine a_getr rfl rfl rfl (fun _ _ _ => rfl) rfl ?_
        refine a_aload_0 rfl rfl ?_
        refine a_virtN rfl rfl (Cr) (Nat.le_of_ble_eq_true rfl) ⟨rfl, rfl, rfl, rfl⟩ rfl rfl rfl (Nat.le_of_ble_eq_true rfl) rfl rfl ?_
        refine a_iload_3 rfl rfl ?_
        refine a_aload_0 rfl rfl ?_
        refine a_getr rfl rfl rfl (fun _ _ _ => rfl) rfl ?_
        refine a_getr rfl rfl rfl (fun _ _ _ => rfl) rfl ?_
        refine a_geti rfl rfl rfl (fun _ _ _ => rfl) ?_
        refine a_as (y := nI (gN A 8)) e8 ?_
        refine a_iload_1 rfl rfl ?_
        refine a_virt0 rfl rfl (C1) (Nat.le_of_ble_eq_true rfl) ⟨rfl, rfl, rfl, rfl⟩ rfl rfl rfl (Nat.le_of_ble_eq_true rfl) rfl rfl ?_
        refine a_aload_0 rfl rfl ?_
        refine a_getr rfl rfl rfl (fun _ _ _ => rfl) rfl ?_
        refine a_aload_0 rfl rfl ?_
        refine a_getr rfl rfl rfl (fun _ _ _ => rfl) rfl ?_
        refine a_virt0 rfl rfl (C2) (Nat.le_of_ble_eq_true rfl) ⟨rfl, rfl, rfl, rfl⟩ rfl rfl rfl (Nat.le_of_ble_eq_true rfl) rfl rfl ?_
        refine a_iinc_3 rfl rfl (nI_inc _ _) rfl ?_
        refine a_goto rfl rfl ?_
        exact A1
      | some o =>
        rw [hro] at Cr C1 C2 A1
        refine a_iload_3 rfl rfl ?_
        refine a_bipush (v := (nI 30)) rfl rfl rfl ?_
        refine a_cmpN_ge rfl rfl rfl (by omega) (by omega) (fun c_40 => False.elim (by omega)) (fun _ => ?_)
        refine a_iload_2 rfl rfl ?_
        refine a_iload_3 rfl rfl ?_
        refine a_statI rfl rfl (e_has (bsI 30 (ftM TX A s)) c (by omega)) (Nat.le_of_ble_eq_true rfl) ⟨rfl, rfl, rfl⟩ rfl rfl rfl (Nat.le_of_ble_eq_true rfl) rfl ?_
        refine a_ifb_eq rfl rfl rfl (fun c_48 => by first | exact absurd c_48 (not_not_intro (by rw [etb, q])) | exact absurd (not_not_intro (by rw [etb, q])) c_48) (fun _ => ?_)
        refine a_aload_0 rfl rfl ?_
        refine a_getr rfl rfl rfl (fun _ _ _ => rfl) rfl ?_
        refine a_aload_0 rfl rfl ?_
        refine a_virtR rfl rfl (Cr) (Nat.le_of_ble_eq_true rfl) ⟨rfl, rfl, rfl, rfl⟩ rfl rfl rfl (Nat.le_of_ble_eq_true rfl) rfl rfl ?_
        refine a_iload_3 rfl rfl ?_
        refine a_aload_0 rfl rfl ?_
        refine a_getr rfl rfl rfl (fun _ _ _ => rfl) rfl ?_
        refine a_getr rfl rfl rfl (fun _ _ _ => rfl) rfl ?_
        refine a_geti rfl rfl rfl (fun _ _ _ => rfl) ?_
        refine a_as (y := nI (gN A 8)) e8 ?_
        refine a_iload_1 rfl rfl ?_
        refine a_virt0 rfl rfl (C1) (Nat.le_of_ble_eq_true rfl) ⟨rfl, rfl, rfl, rfl⟩ rfl rfl rfl (Nat.le_of_ble_eq_true rfl) rfl rfl ?_
        refine a_aload_0 rfl rfl ?_
        refine a_getr rfl rfl rfl (fun _ _ _ => rfl) rfl ?_
        refine a_aload_0 rfl rfl ?_
        refine a_getr rfl rfl rfl (fun _ _ _ => rfl) rfl ?_
        refine a_virt0 rfl rfl (C2) (Nat.le_of_ble_eq_true rfl) ⟨rfl, rfl, rfl, rfl⟩ rfl rfl rfl (Nat.le_of_ble_eq_true rfl) rfl rfl ?_
        refine a_iinc_3 rfl rfl (nI_inc _ _) rfl ?_
        refine a_goto rfl rfl ?_
        exact A1
theorem l_cask2 (m : Nat) : ∀ (s R : Nat) (y2 y3 : Value) (lt : Option Nat) (h : Nat → Nat → Int32), mvIsL y2 = false → s + m = 16 → CI A B TX R t lt h → R + 60 * m < 67108864 → (∀ j, j < 30 → h 80 j = bsI 16 (uC TX A s 0 j)) → ∃ h' lt' R', CF clS h h' ∧ CI A B TX R' t lt' h' ∧ R ≤ R' ∧ R' ≤ R + 60 * m ∧ (∀ j, j < 30 → h' 80 j = bsI 16 (uC TX A 16 0 j)) ∧ ∀ r : Option Value × mvSt, (∀ y2 y3, avA 5 149 97 [.ref 7, .int (nI 16), y2, y3] [] (sX L t lt' rt rp sw h' gl) r) → avA 5 149 23 [.ref 7, .int (nI s), y2, y3] [] (sX L t lt rt rp sw h gl) r := by
  induction m with
  | zero =>
    intro s R y2 y3 lt h hy hs H hR hj
    have e : s = 16 := by omega
    subst e
    refine ⟨h, lt, R, CF_refl, H, by omega, by omega, hj, fun r Z => ?_⟩
    refine a_iload_1 rfl rfl ?_
    refine a_bipush (v := (nI 15)) rfl rfl rfl ?_
    refine a_cmpN_gt rfl rfl rfl (by omega) (by omega) (fun _ => ?_) (fun c_26 => absurd c_26 (by decide))
    exact Z _ _
  | succ m ih =>
    intro s R y2 y3 lt h hy hs H hR hj
    obtain ⟨h1, lt1, R1, C1, c1, H1, r1, r2⟩ := C_fit (L := L) (rt := rt) (rp := rp) (sw := sw) (gl := gl) s (by omega) H (by omega)
    obtain ⟨h2, lt2, R2, c2, H2, r3, r4, j2, K2⟩ := l_cask1 (L := L) (t := t) (rt := rt) (rp := rp) (sw := sw) (gl := gl) s (by omega) 30 0 R1 lt1 h1 rfl H1 (by omega) (by rw [c1 80 rfl]; exact hj)
    obtain ⟨h3, lt3, R3, c3, H3, r5, r6, j3, K3⟩ := ih (s + 1) R2 (.int (bsI 30 (ftM TX A s))) (.int (nI 30)) lt2 h2 rfl (by omega) H2 (by omega) (fun j hj' => by rw [← uC_n]; exact j2 j hj')
    refine ⟨h3, lt3, R3, CF_trans (CF_cl rfl c1) (CF_trans c2 c3), H3, by omega, by omega, j3, fun r Z => ?_⟩
    have A1 := K3 r Z
    refine a_iload_1 rfl rfl ?_
    refine a_bipush (v := (nI 15)) rfl rfl rfl ?_
    refine a_cmpN_gt rfl rfl rfl (by omega) (by omega) (fun c_26 => False.elim (by omega)) (fun _ => ?_)
    refine a_aload_0 rfl rfl ?_
    refine a_iload_1 rfl rfl ?_
    refine a_virtI rfl rfl (C1) (Nat.le_of_ble_eq_true rfl) ⟨rfl, rfl, rfl, rfl⟩ rfl rfl rfl (Nat.le_of_ble_eq_true rfl) rfl rfl ?_
    refine a_istore_2 rfl rfl rfl ?_
    refine a_iconst (v := (nI 0)) rfl rfl rfl ?_
    refine a_istore_3 rfl rfl rfl ?_
    refine K2 r ?_
    refine a_iinc_1 rfl rfl (nI_inc _ _) rfl ?_
    refine a_goto rfl rfl ?_
    exact A1
theorem l_cask0 {lt : Option Nat} {h : Nat → Nat → Int32} (r : Option Value × mvSt) (F : Nat → Int32) (m : Nat) : ∀ i, i + m = 30 → avA 5 149 21 [.ref 7, .int (nI 30), mvU, mvU] [] (sX L t lt rt rp sw (va_up h 80 (rw1 30 (fun _ => nI 0) F)) gl) r → avA 5 149 2 [.ref 7, .int (nI i), mvU, mvU] [] (sX L t lt rt rp sw (va_up h 80 (rw1 i (fun _ => nI 0) F)) gl) r := by
  induction m with
  | zero =>
    intro i hi Z
    have e : i = 30 := by omega
    subst e
    refine a_iload_1 rfl rfl ?_
    refine a_bipush (v := (nI 30)) rfl rfl rfl ?_
    refine a_cmpN_ge rfl rfl rfl (by omega) (by omega) (fun _ => ?_) (fun c_5 => absurd c_5 (by decide))
    exact Z
  | succ m ih =>
    intro i hi Z
    refine a_iload_1 rfl rfl ?_
    refine a_bipush (v := (nI 30)) rfl rfl rfl ?_
    refine a_cmpN_ge rfl rfl rfl (by omega) (by omega) (fun c_5 => False.elim (by omega)) (fun _ => ?_)
    refine a_aload_0 rfl rfl ?_
    refine a_getr rfl rfl rfl (fun _ _ _ => rfl) rfl ?_
    refine a_iload_1 rfl rfl ?_
    refine a_iconst (v := (nI 0)) rfl rfl rfl ?_
    refine a_iast rfl rfl rfl rfl (by omega) (by decide) ?_
    rw [up_put, rw1_s i _ _ rfl]
    refine a_iinc_1 rfl rfl (nI_inc _ _) rfl ?_
    refine a_goto rfl rfl ?_
    exact ih (i + 1) (by omega) Z
theorem l_most {lt : Option Nat} {h : Nat → Nat → Int32} (ho : h 9 0 = bsI 30 (frA A)) (hj : ∀ j, j < 30 → h 80 j = bsI 16 (uC TX A 16 0 j)) (m : Nat) : ∀ (c : Nat) (y4 : Value), c + m = 30 → avA 1 151 6 [.ref 7, .int (brS (tlN TX A) c).1, .int (nI (brS (tlN TX A) c).2), .int (nI c), y4] [] (sX L t lt rt rp sw h gl) (some (.int (brS (tlN TX A) 30).1), sX L t lt rt rp sw h gl) := by
  induction m with
  | zero =>
    intro c y4 hc
    have e : c = 30 := by omega
    subst e
    refine a_iload_3 rfl rfl ?_
    refine a_bipush (v := (nI 30)) rfl rfl rfl ?_
    refine a_cmpN_ge rfl rfl rfl (by omega) (by omega) (fun _ => ?_) (fun c_9 => absurd c_9 (by decide))
    refine a_iload_1 rfl rfl ?_
    exact a_iret rfl rfl
  | succ m ih =>
    intro c y4 hc
    have etb : tb (bsI 30 (frA A)) c = frA A c := by rw [tb_bs (by omega)]; simp; omega
    have l1 := cnt_le 16 (uC TX A 16 0 c)
    have l2 := br_le (tlN TX A) c 16 (tlN_le TX A)
    have Z := ih (c + 1) (.int (nI (cnt 16 (uC TX A 16 0 c)))) (by omega)
    rw [brS] at Z
    cases q : frA A c with
    | false =>
      have e0 : tlN TX A c = 0 := by unfold tlN; rw [if_neg (by rw [q]; decide)]
      rw [e0, if_neg (by omega)] at Z
      refine a_iload_3 rfl rfl ?_
      refine a_bipush (v := (nI 30)) rfl rfl rfl ?_
      refine a_cmpN_ge rfl rfl rfl (by omega) (by omega) (fun c_9 => False.elim (by omega)) (fun _ => ?_)
      refine a_aload_0 rfl rfl ?_
      refine a_getr rfl rfl rfl (fun _ _ _ => rfl) rfl ?_
      refine a_iload_3 rfl rfl ?_
      refine a_iald rfl rfl (Or.inl rfl) rfl (by omega) (by decide) ?_
      refine a_as (y := _) (hj c (by omega)) ?_
      refine a_statI rfl rfl (e_bitCountS (by omega) _) (Nat.le_of_ble_eq_true rfl) ⟨rfl, rfl, rfl⟩ rfl rfl rfl (Nat.le_of_ble_eq_true rfl) rfl ?_
      refine a_istore_4 rfl rfl rfl ?_
      refine a_aload_0 rfl rfl ?_
      refine a_getr rfl rfl rfl (fun _ _ _ => rfl) rfl ?_
      refine a_geti rfl rfl rfl (fun _ _ _ => rfl) ?_
      refine a_as (y := _) ho ?_
      refine a_iload_3 rfl rfl ?_
      refine a_statI rfl rfl (e_has (bsI 30 (frA A)) c (by omega)) (Nat.le_of_ble_eq_true rfl) ⟨rfl, rfl, rfl⟩ rfl rfl rfl (Nat.le_of_ble_eq_true rfl) rfl ?_
      refine a_ifb_eq rfl rfl rfl (fun _ => ?_) (fun c_34 => by first | exact absurd (by rw [etb, q]; decide) c_34 | exact absurd c_34 (by rw [etb, q]; decide))
      refine a_iinc_3 rfl rfl (nI_inc _ _) rfl ?_
      refine a_goto rfl rfl ?_
      exact Z
    | true =>
      have e0 : tlN TX A c = cnt 16 (uC TX A 16 0 c) := by unfold tlN; rw [if_pos q]
      rw [e0] at Z
      refine a_iload_3 rfl rfl ?_
      refine a_bipush (v := (nI 30)) rfl rfl rfl ?_
      refine a_cmpN_ge rfl rfl rfl (by omega) (by omega) (fun c_9 => False.elim (by omega)) (fun _ => ?_)
      refine a_aload_0 rfl rfl ?_
      refine a_getr rfl rfl rfl (fun _ _ _ => rfl) rfl ?_
      refine a_iload_3 rfl rfl ?_
      refine a_iald rfl rfl (Or.inl rfl) rfl (by omega) (by decide) ?_
      refine a_as (y := _) (hj c (by omega)) ?_
      refine a_statI rfl rfl (e_bitCountS (by omega) _) (Nat.le_of_ble_eq_true rfl) ⟨rfl, rfl, rfl⟩ rfl rfl rfl (Nat.le_of_ble_eq_true rfl) rfl ?_
      refine a_istore_4 rfl rfl rfl ?_
      refine a_aload_0 rfl rfl ?_
      refine a_getr rfl rfl rfl (fun _ _ _ => rfl) rfl ?_
      refine a_geti rfl rfl rfl (fun _ _ _ => rfl) ?_
      refine a_as (y := _) ho ?_
      refine a_iload_3 rfl rfl ?_
      refine a_statI rfl rfl (e_has (bsI 30 (frA A)) c (by omega)) (Nat.le_of_ble_eq_true rfl) ⟨rfl, rfl, rfl⟩ rfl rfl rfl (Nat.le_of_ble_eq_true rfl) rfl ?_
      refine a_ifb_eq rfl rfl rfl (fun c_34 => by first | exact absurd c_34 (not_not_intro (by rw [etb, q])) | exact absurd (not_not_intro (by rw [etb, q])) c_34) (fun _ => ?_)
      refine a_iload_4 rfl rfl ?_
      refine a_iload_2 rfl rfl ?_
      refine a_cmpN_le rfl rfl rfl (by omega) (by omega) (fun c_40 => ?_) (fun c_40 => ?_)
      · refine a_iinc_3 rfl rfl (nI_inc _ _) rfl ?_
        refine a_goto rfl rfl ?_
        first | (rw [if_pos (by omega)] at Z; exact Z) | (rw [if_neg (by omega)] at Z; exact Z)
      · refine a_iload_4 rfl rfl ?_
        refine a_istore_2 rfl rfl rfl ?_
        refine a_iload_3 rfl rfl ?_
        refine a_istore_1 rfl rfl rfl ?_
        refine a_iinc_3 rfl rfl (nI_inc _ _) rfl ?_
        refine a_goto rfl rfl ?_
        first | (rw [if_pos (by omega)] at Z; exact Z) | (rw [if_neg (by omega)] at Z; exact Z)
end AK2
section AR
variable {L t : Nat} {lt rt rp : Option Nat} {sw : Bool} {A B : Nat → Int32} {TX : Nat → Txt}
/-- the reference's row of lights told -/
def tR (TX : Nat → Txt) (A : Nat → Int32) (c s j : Nat) : Int32 := if frA A j = true then bsI 16 (uR TX A c s j) else nI 0
theorem l_rask1 (ok : okA A) (s c : Nat) (hs : s ≤ 15) (hq : ftM TX A s c = true) (m : Nat) : ∀ (e : Nat) (h : Nat → Nat → Int32) (gl : Nat → Nat → Int64), e + m = 30 → RI A B TX h → (∀ e, e < 30 → h 91 e = frF (frA A) (nI c) e) → (∀ j, j < 30 → h 93 j = if j < e then tR TX A c (s + 1) j else tR TX A c s j) → ∃ h' gl', CF [87, 90, 93] h h' ∧ (∀ j, j < 30 → h' 93 j = tR TX A c (s + 1) j) ∧ ∀ r : Option Value × mvSt, avA 6 306 113 [.ref 81, .int (nI c), .int (nI s), .int (nI 30)] [] (sX L t lt rt rp sw h' gl') r → avA 6 306 66 [.ref 81, .int (nI c), .int (nI s), .int (nI e)] [] (sX L t lt rt rp sw h gl) r := by
  have l8 := gN_le (m := 9999) ok.1 (i := 8) (by omega) (by decide)
  induction m with
  | zero =>
    intro e h gl he H hX hj
    have ee : e = 30 := by omega
    subst ee
    refine ⟨h, gl, CF_refl, fun j hj' => by rw [hj j hj', if_pos hj'], fun r Z => ?_⟩
    refine a_iload_3 rfl rfl ?_
    refine a_bipush (v := (nI 30)) rfl rfl rfl ?_
    refine a_cmpN_ge rfl rfl rfl (by omega) (by omega) (fun _ => ?_) (fun c_69 => absurd c_69 (by decide))
    exact Z
  | succ m ih =>
    intro e h gl he H hX hj
    have e8 : h 82 8 = nI (gN A 8) := by rw [H.1]; exact gN_eq ok.1 (by omega) (by decide)
    have Cf := r_isFreeN (L := L) (t := t) (lt := lt) (rt := rt) (rp := rp) (sw := sw) (h := h) (gl := gl) e (by omega)
    rw [H.1] at Cf
    have z : h 93 e = tR TX A c s e := by rw [hj e (by omega), if_neg (by omega)]
    have step : ∀ (h1 : Nat → Nat → Int32), h1 93 = h 93 → ∀ j, j < 30 → va_up (h1 93) e (tR TX A c (s + 1) e) j = if j < e + 1 then tR TX A c (s + 1) j else tR TX A c s j := fun h1 e1 j hj' => by
      rw [e1]
      by_cases q : j = e
      · subst q; rw [va_up_self, if_pos (by omega)]
      · rw [va_up_ne _ _ q, hj j hj']
        by_cases q2 : j < e
        · rw [if_pos q2, if_pos (by omega)]
        · rw [if_neg q2, if_neg (by omega)]
    cases q : frA A e with
    | false =>
      have t1 : tR TX A c (s + 1) e = nI 0 := by unfold tR; rw [if_neg (by rw [q]; decide)]
      have t0 : tR TX A c s e = nI 0 := by unfold tR; rw [if_neg (by rw [q]; decide)]
      have c2 : CF [93] h (mvPut h 93 e (tR TX A c (s + 1) e)) := CF_put CF_refl rfl
      obtain ⟨h', gl', c3, k', K⟩ := ih (e + 1) (mvPut h 93 e (tR TX A c (s + 1) e)) gl (by omega) (RI_cf H rfl c2) hX (step h rfl)
      refine ⟨h', gl', CF_trans (CF_mono (by decide) c2) c3, k', fun r Z => ?_⟩
      have A1 := K r Z
      rw [t1] at A1
      refine a_iload_3 rfl rfl ?_
      refine a_bipush (v := (nI 30)) rfl rfl rfl ?_
      refine a_cmpN_ge rfl rfl rfl (by omega) (by omega) (fun c_69 => False.elim (by omega)) (fun _ => ?_)
      refine a_aload_0 rfl rfl ?_
      refine a_getr rfl rfl rfl (fun _ _ _ => rfl) rfl ?_
      refine a_iload_3 rfl rfl ?_
      refine a_dup2 rfl rfl rfl ?_
      refine a_iald rfl rfl (Or.inl rfl) rfl (by omega) (by decide) ?_
      refine a_as (y := nI 0) (z.trans t0) ?_
      refine a_aload_0 rfl rfl ?_
      refine a_iload_3 rfl rfl ?_
      refine a_virtI rfl rfl (Cf) (Nat.le_of_ble_eq_true rfl) ⟨rfl, rfl, rfl, rfl⟩ rfl rfl rfl (Nat.le_of_ble_eq_true rfl) rfl rfl ?_
      refine a_ifb_eq rfl rfl rfl (fun _ => ?_) (fun c_84 => by first | exact absurd (by rw [q]; decide) c_84 | exact absurd c_84 (by rw [q]; decide))
      refine a_iconst (v := (nI 0)) rfl rfl rfl ?_
      refine a_ior rfl rfl ?_
      refine a_as (y := nI 0) rfl ?_
      refine a_iast rfl rfl rfl rfl (by omega) (by decide) ?_
      refine a_iinc_3 rfl rfl (nI_inc _ _) rfl ?_
      refine a_goto rfl rfl ?_
      exact A1
    | true =>
      have t1 : tR TX A c (s + 1) e = bsI 16 (uR TX A c (s + 1) e) := by unfold tR; rw [if_pos q]
      have t0 : tR TX A c s e = bsI 16 (uR TX A c s e) := by unfold tR; rw [if_pos q]
      obtain ⟨h1, gl1, C1, c1⟩ := r_shinesOf (L := L) (t := t) (lt := lt) (rt := rt) (rp := rp) (sw := sw) (gl := gl) (h 82 2) e (gN A 8) s (nI c) (flA TX A 0) (by omega) l8 hs e8 (by rw [H.1]; exact rOK_clOK ok.1) (RI_txR H ok 0 (by omega)) (by rw [H.1]; exact hX _ (by omega))
      have C1' : avE 4 257 [.ref 81, .int (A 2), .int (nI e), .int (nI s)] (sX L t lt rt rp sw h gl) (some (.int (nI (lcA TX A s c e))), sX L t lt rt rp sw h1 gl1) := by
        rw [H.1] at C1
        exact C1
      have c2 : CF [93] h1 (mvPut h1 93 e (tR TX A c (s + 1) e)) := CF_put CF_refl rfl
      obtain ⟨h', gl', c3, k', K⟩ := ih (e + 1) (mvPut h1 93 e (tR TX A c (s + 1) e)) gl1 (by omega) (RI_cf (RI_cf H rfl c1) rfl c2) (by show ∀ e, e < 30 → h1 91 e = _; rw [c1 91 rfl]; exact hX) (step h1 (c1 93 rfl))
      refine ⟨h', gl', CF_trans (CF_mono (by decide) c1) (CF_trans (CF_mono (by decide) c2) c3), k', fun r Z => ?_⟩
      have A1 := K r Z
      rw [t1] at A1
      refine a_iload_3 rfl rfl ?_
      refine a_bipush (v := (nI 30)) rfl rfl rfl ?_
      refine a_cmpN_ge rfl rfl rfl (by omega) (by omega) (fun c_69 => False.elim (by omega)) (fun _ => ?_)
      refine a_aload_0 rfl rfl ?_
      refine a_getr rfl rfl rfl (fun _ _ _ => rfl) rfl ?_
      refine a_iload_3 rfl rfl ?_
      refine a_dup2 rfl rfl rfl ?_
      refine a_iald rfl rfl (Or.inl rfl) rfl (by omega) (by decide) ?_
      refine a_as (y := bsI 16 (uR TX A c s e)) (z.trans t0) ?_
      refine a_aload_0 rfl rfl ?_
      refine a_iload_3 rfl rfl ?_
      refine a_virtI rfl rfl (Cf) (Nat.le_of_ble_eq_true rfl) ⟨rfl, rfl, rfl, rfl⟩ rfl rfl rfl (Nat.le_of_ble_eq_true rfl) rfl rfl ?_
      refine a_ifb_eq rfl rfl rfl (fun c_84 => by first | exact absurd c_84 (not_not_intro q) | exact absurd (not_not_intro q) c_84) (fun _ => ?_)
      refine a_iconst (v := (nI 1)) rfl rfl rfl ?_
      refine a_aload_0 rfl rfl ?_
      refine a_aload_0 rfl rfl ?_
      refine a_getr rfl rfl rfl (fun _ _ _ => rfl) rfl ?_
      refine a_iconst (v := (nI 2)) rfl rfl rfl ?_
      refine a_iald rfl rfl (Or.inl rfl) rfl (by omega) (by decide) ?_
      refine a_as (y := A 2) (by rw [H.1]) ?_
      refine a_iload_3 rfl rfl ?_
      refine a_iload_2 rfl rfl ?_
      refine a_virtI rfl rfl (C1') (Nat.le_of_ble_eq_true rfl) ⟨rfl, rfl, rfl, rfl⟩ rfl rfl rfl (Nat.le_of_ble_eq_true rfl) rfl rfl ?_
      refine a_ishl rfl rfl ?_
      refine a_goto rfl rfl ?_
      refine a_ior rfl rfl ?_
      refine a_as (y := bsI 16 (uR TX A c (s + 1) e)) (uR_T hq) ?_
      refine a_iast rfl rfl rfl rfl (by omega) (by decide) ?_
      refine a_iinc_3 rfl rfl (nI_inc _ _) rfl ?_
      refine a_goto rfl rfl ?_
      exact A1
theorem l_rask2 (ok : okA A) (c : Nat) (hc : c < 30) (hfr : frA A c = true) (m : Nat) : ∀ (s : Nat) (h : Nat → Nat → Int32) (gl : Nat → Nat → Int64), s + m = 16 → RI A B TX h → (∀ e, e < 30 → h 91 e = frF (frA A) (nI c) e) → (∀ j, j < 30 → h 93 j = tR TX A c s j) → ∃ h' gl', CF [87, 90, 93] h h' ∧ (∀ j, j < 30 → h' 93 j = tR TX A c 16 j) ∧ ∀ (r : Option Value × mvSt) (y3 : Value), (∀ y3, avA 6 306 119 [.ref 81, .int (nI c), .int (nI 16), y3] [] (sX L t lt rt rp sw h' gl') r) → avA 6 306 47 [.ref 81, .int (nI c), .int (nI s), y3] [] (sX L t lt rt rp sw h gl) r := by
  induction m with
  | zero =>
    intro s h gl hs H hX hj
    have e : s = 16 := by omega
    subst e
    refine ⟨h, gl, CF_refl, hj, fun r y3 Z => ?_⟩
    refine a_iload_2 rfl rfl ?_
    refine a_bipush (v := (nI 15)) rfl rfl rfl ?_
    refine a_cmpN_gt rfl rfl rfl (by omega) (by omega) (fun _ => ?_) (fun c_50 => absurd c_50 (by decide))
    exact Z _
  | succ m ih =>
    intro s h gl hs H hX hj
    obtain ⟨h1, gl1, C1, c1⟩ := r_isSeen (L := L) (t := t) (lt := lt) (rt := rt) (rp := rp) (sw := sw) (gl := gl) ok s c (by omega) H hX
    have em : ftM TX A s c = prS (lcA TX A s c) A 122 (gN A 6) := by unfold ftM; rw [hfr]; rfl
    rw [← em] at C1
    have H1 : RI A B TX h1 := RI_cf H rfl c1
    cases g : ftM TX A s c with
    | true =>
      rw [g] at C1
      obtain ⟨h2, gl2, c2, k2, K2⟩ := l_rask1 (L := L) (t := t) (lt := lt) (rt := rt) (rp := rp) (sw := sw) ok s c (by omega) g 30 0 h1 gl1 rfl H1 (by rw [c1 91 rfl]; exact hX) (fun j hj' => by rw [c1 93 rfl, hj j hj', if_neg (by omega)])
      obtain ⟨h', gl', c3, k', K⟩ := ih (s + 1) h2 gl2 (by omega) (RI_cf H1 rfl c2) (by rw [c2 91 rfl, c1 91 rfl]; exact hX) k2
      refine ⟨h', gl', CF_trans (CF_mono (by decide) c1) (CF_trans c2 c3), k', fun r y3 Z => ?_⟩
      have A1 := K r (.int (nI 30)) Z
      refine a_iload_2 rfl rfl ?_
      refine a_bipush (v := (nI 15)) rfl rfl rfl ?_
      refine a_cmpN_gt rfl rfl rfl (by omega) (by omega) (fun c_50 => False.elim (by omega)) (fun _ => ?_)
      refine a_aload_0 rfl rfl ?_
      refine a_iload_2 rfl rfl ?_
      refine a_virtI rfl rfl (C1) (Nat.le_of_ble_eq_true rfl) ⟨rfl, rfl, rfl, rfl⟩ rfl rfl rfl (Nat.le_of_ble_eq_true rfl) rfl rfl ?_
      refine a_ifN_ne rfl rfl rfl (by decide) (fun _ => ?_) (fun c_58 => False.elim (absurd c_58 (by decide)))
      refine a_iconst (v := (nI 0)) rfl rfl rfl ?_
      refine a_istore_3 rfl rfl rfl ?_
      refine K2 r ?_
      refine a_iinc_2 rfl rfl (nI_inc _ _) rfl ?_
      refine a_goto rfl rfl ?_
      exact A1
    | false =>
      rw [g] at C1
      obtain ⟨h', gl', c3, k', K⟩ := ih (s + 1) h1 gl1 (by omega) H1 (by rw [c1 91 rfl]; exact hX) (fun j hj' => by rw [c1 93 rfl, hj j hj']; unfold tR; rw [uR_F g])
      refine ⟨h', gl', CF_trans (CF_mono (by decide) c1) c3, k', fun r y3 Z => ?_⟩
      have A1 := K r y3 Z
      refine a_iload_2 rfl rfl ?_
      refine a_bipush (v := (nI 15)) rfl rfl rfl ?_
      refine a_cmpN_gt rfl rfl rfl (by omega) (by omega) (fun c_50 => False.elim (by omega)) (fun _ => ?_)
      refine a_aload_0 rfl rfl ?_
      refine a_iload_2 rfl rfl ?_
      refine a_virtI rfl rfl (C1) (Nat.le_of_ble_eq_true rfl) ⟨rfl, rfl, rfl, rfl⟩ rfl rfl rfl (Nat.le_of_ble_eq_true rfl) rfl rfl ?_
      refine a_ifN_ne rfl rfl rfl (by decide) (fun c_58 => False.elim (absurd c_58 (by decide))) (fun _ => ?_)
      refine a_goto rfl rfl ?_
      refine a_iinc_2 rfl rfl (nI_inc _ _) rfl ?_
      refine a_goto rfl rfl ?_
      exact A1
theorem l_rask3 (ok : okA A) (m : Nat) : ∀ (c : Nat) (h : Nat → Nat → Int32) (gl : Nat → Nat → Int64), c + m = 30 → RI A B TX h → (∀ j, j < 30 → h 93 j = tR TX A c 0 j) → ∃ h' gl', CF [87, 90, 91, 93] h h' ∧ (∀ j, j < 30 → h' 93 j = tR TX A 30 0 j) ∧ ∀ (r : Option Value × mvSt) (y2 y3 : Value), mvIsL y2 = false → (∀ y2 y3, mvIsL y2 = false → avA 6 306 125 [.ref 81, .int (nI 30), y2, y3] [] (sX L t lt rt rp sw h' gl') r) → avA 6 306 23 [.ref 81, .int (nI c), y2, y3] [] (sX L t lt rt rp sw h gl) r := by
  induction m with
  | zero =>
    intro c h gl hc H hj
    have e : c = 30 := by omega
    subst e
    refine ⟨h, gl, CF_refl, hj, fun r y2 y3 hy Z => ?_⟩
    refine a_iload_1 rfl rfl ?_
    refine a_bipush (v := (nI 30)) rfl rfl rfl ?_
    refine a_cmpN_ge rfl rfl rfl (by omega) (by omega) (fun _ => ?_) (fun c_26 => absurd c_26 (by decide))
    exact Z _ _ hy
  | succ m ih =>
    intro c h gl hc H hj
    have Cf := r_isFreeN (L := L) (t := t) (lt := lt) (rt := rt) (rp := rp) (sw := sw) (h := h) (gl := gl) c (by omega)
    rw [H.1] at Cf
    cases q : frA A c with
    | false =>
      have no : ∀ s, ftM TX A s c = false := fun s => by unfold ftM; rw [q]; rfl
      obtain ⟨h', gl', c3, k', K⟩ := ih (c + 1) h gl (by omega) H (fun j hj' => by rw [hj j hj']; unfold tR; rw [uR_no no])
      refine ⟨h', gl', c3, k', fun r y2 y3 hy Z => ?_⟩
      have A1 := K r y2 y3 hy Z
      refine a_iload_1 rfl rfl ?_
      refine a_bipush (v := (nI 30)) rfl rfl rfl ?_
      refine a_cmpN_ge rfl rfl rfl (by omega) (by omega) (fun c_26 => False.elim (by omega)) (fun _ => ?_)
      refine a_aload_0 rfl rfl ?_
      refine a_iload_1 rfl rfl ?_
      refine a_virtI rfl rfl (Cf) (Nat.le_of_ble_eq_true rfl) ⟨rfl, rfl, rfl, rfl⟩ rfl rfl rfl (Nat.le_of_ble_eq_true rfl) rfl rfl ?_
      refine a_ifb_ne rfl rfl rfl (fun c_34 => by first | exact absurd c_34 (by rw [q]; decide) | exact absurd (by rw [q]; decide) c_34) (fun _ => ?_)
      refine a_goto rfl rfl ?_
      refine a_iinc_1 rfl rfl (nI_inc _ _) rfl ?_
      refine a_goto rfl rfl ?_
      exact A1
    | true =>
      have H1 : RI A B TX (va_up h 91 (rw1 30 (farA (h 82) (nI c)) (h 91))) := RI_cf H (S := [91]) rfl (CF_up CF_refl rfl)
      obtain ⟨h2, gl2, c2, k2, K2⟩ := l_rask2 (L := L) (t := t) (lt := lt) (rt := rt) (rp := rp) (sw := sw) ok c (by omega) q 16 0 _ gl rfl H1 (fun e he => by rw [va_up_self, rw1_lt he, H.1]; rfl) hj
      obtain ⟨h', gl', c3, k', K⟩ := ih (c + 1) h2 gl2 (by omega) (RI_cf H1 rfl c2) (fun j hj' => by rw [k2 j hj']; unfold tR; rw [uR_n])
      refine ⟨h', gl', CF_trans (CF_up CF_refl rfl) (CF_trans (CF_mono (by decide) c2) c3), k', fun r y2 y3 hy Z => ?_⟩
      have A1 := fun y3 => K r (.int (nI 16)) y3 rfl Z
      refine a_iload_1 rfl rfl ?_
      refine a_bipush (v := (nI 30)) rfl rfl rfl ?_
      refine a_cmpN_ge rfl rfl rfl (by omega) (by omega) (fun c_26 => False.elim (by omega)) (fun _ => ?_)
      refine a_aload_0 rfl rfl ?_
      refine a_iload_1 rfl rfl ?_
      refine a_virtI rfl rfl (Cf) (Nat.le_of_ble_eq_true rfl) ⟨rfl, rfl, rfl, rfl⟩ rfl rfl rfl (Nat.le_of_ble_eq_true rfl) rfl rfl ?_
      refine a_ifb_ne rfl rfl rfl (fun _ => ?_) (fun c_34 => by first | exact absurd q c_34 | exact absurd c_34 q)
      refine a_aload_0 rfl rfl ?_
      refine a_iload_1 rfl rfl ?_
      refine a_virt0 rfl rfl (r_layFar (nI c)) (Nat.le_of_ble_eq_true rfl) ⟨rfl, rfl, rfl, rfl⟩ rfl rfl rfl (Nat.le_of_ble_eq_true rfl) rfl rfl ?_
      refine a_iconst (v := (nI 0)) rfl rfl rfl ?_
      refine a_istore_2 rfl rfl rfl ?_
      refine K2 r _ (fun y3 => ?_)
      refine a_iinc_1 rfl rfl (nI_inc _ _) rfl ?_
      refine a_goto rfl rfl ?_
      exact A1 _
theorem l_rask0 {h : Nat → Nat → Int32} {gl : Nat → Nat → Int64} (r : Option Value × mvSt) (F : Nat → Int32) (m : Nat) : ∀ i, i + m = 30 → avA 6 306 21 [.ref 81, .int (nI 30), mvU, mvU] [] (sX L t lt rt rp sw (va_up h 93 (rw1 30 (fun _ => nI 0) F)) gl) r → avA 6 306 2 [.ref 81, .int (nI i), mvU, mvU] [] (sX L t lt rt rp sw (va_up h 93 (rw1 i (fun _ => nI 0) F)) gl) r := by
  induction m with
  | zero =>
    intro i hi Z
    have e : i = 30 := by omega
    subst e
    refine a_iload_1 rfl rfl ?_
    refine a_bipush (v := (nI 30)) rfl rfl rfl ?_
    refine a_cmpN_ge rfl rfl rfl (by omega) (by omega) (fun _ => ?_) (fun c_5 => absurd c_5 (by decide))
    exact Z
  | succ m ih =>
    intro i hi Z
    refine a_iload_1 rfl rfl ?_
    refine a_bipush (v := (nI 30)) rfl rfl rfl ?_
    refine a_cmpN_ge rfl rfl rfl (by omega) (by omega) (fun c_5 => False.elim (by omega)) (fun _ => ?_)
    refine a_aload_0 rfl rfl ?_
    refine a_getr rfl rfl rfl (fun _ _ _ => rfl) rfl ?_
    refine a_iload_1 rfl rfl ?_
    refine a_iconst (v := (nI 0)) rfl rfl rfl ?_
    refine a_iast rfl rfl rfl rfl (by omega) (by decide) ?_
    rw [up_put, rw1_s i _ _ rfl]
    refine a_iinc_1 rfl rfl (nI_inc _ _) rfl ?_
    refine a_goto rfl rfl ?_
    exact ih (i + 1) (by omega) Z
theorem l_rmost {h : Nat → Nat → Int32} {gl : Nat → Nat → Int64} (y3 : Value) (hj : ∀ j, j < 30 → ∃ p, h 93 j = bsI 16 p ∧ cnt 16 p = tlN TX A j) (m : Nat) : ∀ (c : Nat), c + m = 30 → avA 6 306 129 [.ref 81, .int (brS (tlN TX A) c).1, .int (nI c), y3] [] (sX L t lt rt rp sw h gl) (some (.int (brS (tlN TX A) 30).1), sX L t lt rt rp sw h gl) := by
  induction m with
  | zero =>
    intro c hc
    have e : c = 30 := by omega
    subst e
    refine a_iload_2 rfl rfl ?_
    refine a_bipush (v := (nI 30)) rfl rfl rfl ?_
    refine a_cmpN_ge rfl rfl rfl (by omega) (by omega) (fun _ => ?_) (fun c_132 => absurd c_132 (by decide))
    refine a_iload_1 rfl rfl ?_
    exact a_iret rfl rfl
  | succ m ih =>
    intro c hc
    have l1 := tlN_le TX A c
    have Z := ih (c + 1) (by omega)
    rw [brS] at Z
    obtain ⟨p, e1, e2⟩ := hj c (by omega)
    have C1 := r_bitsS (σ := sX L t lt rt rp sw h gl) (n := 16) (by omega) p
    rw [e2] at C1
    rcases br_v (tlN TX A) c with w | ⟨k, hk, w⟩
    · rw [w] at Z ⊢
      refine a_iload_2 rfl rfl ?_
      refine a_bipush (v := (nI 30)) rfl rfl rfl ?_
      refine a_cmpN_ge rfl rfl rfl (by omega) (by omega) (fun c_132 => False.elim (by omega)) (fun _ => ?_)
      refine a_aload_0 rfl rfl ?_
      refine a_getr rfl rfl rfl (fun _ _ _ => rfl) rfl ?_
      refine a_iload_2 rfl rfl ?_
      refine a_iald rfl rfl (Or.inl rfl) rfl (by omega) (by decide) ?_
      refine a_as (y := _) e1 ?_
      refine a_statI rfl rfl (C1) (Nat.le_of_ble_eq_true rfl) ⟨rfl, rfl, rfl⟩ rfl rfl rfl (Nat.le_of_ble_eq_true rfl) rfl ?_
      refine a_iload_1 rfl rfl ?_
      refine a_iconst (v := (-1)) rfl rfl rfl ?_
      refine a_cmp_ne rfl rfl rfl (fun c_146 => by first | exact absurd c_146 (not_not_intro rfl) | exact absurd (not_not_intro rfl) c_146) (fun _ => ?_)
      refine a_iconst (v := (nI 0)) rfl rfl rfl ?_
      refine a_goto rfl rfl ?_
      refine a_cmpN_le rfl rfl rfl (by omega) (by omega) (fun c_162 => ?_) (fun c_162 => ?_)
      · refine a_iinc_2 rfl rfl (nI_inc _ _) rfl ?_
        refine a_goto rfl rfl ?_
        first | (rw [if_pos (by omega)] at Z; exact Z) | (rw [if_neg (by omega)] at Z; exact Z)
      · refine a_iload_2 rfl rfl ?_
        refine a_istore_1 rfl rfl rfl ?_
        refine a_iinc_2 rfl rfl (nI_inc _ _) rfl ?_
        refine a_goto rfl rfl ?_
        first | (rw [if_pos (by omega)] at Z; exact Z) | (rw [if_neg (by omega)] at Z; exact Z)
    · rw [w] at Z ⊢
      obtain ⟨p2, f1, f2⟩ := hj k (by omega)
      have C2 := r_bitsS (σ := sX L t lt rt rp sw h gl) (n := 16) (by omega) p2
      rw [f2] at C2
      have l2 := tlN_le TX A k
      refine a_iload_2 rfl rfl ?_
      refine a_bipush (v := (nI 30)) rfl rfl rfl ?_
      refine a_cmpN_ge rfl rfl rfl (by omega) (by omega) (fun c_132 => False.elim (by omega)) (fun _ => ?_)
      refine a_aload_0 rfl rfl ?_
      refine a_getr rfl rfl rfl (fun _ _ _ => rfl) rfl ?_
      refine a_iload_2 rfl rfl ?_
      refine a_iald rfl rfl (Or.inl rfl) rfl (by omega) (by decide) ?_
      refine a_as (y := _) e1 ?_
      refine a_statI rfl rfl (C1) (Nat.le_of_ble_eq_true rfl) ⟨rfl, rfl, rfl⟩ rfl rfl rfl (Nat.le_of_ble_eq_true rfl) rfl ?_
      refine a_iload_1 rfl rfl ?_
      refine a_iconst (v := (-1)) rfl rfl rfl ?_
      refine a_cmp_ne rfl rfl rfl (fun _ => ?_) (fun c_146 => by first | exact absurd (nI_ne_m1 (by omega)) c_146 | exact absurd c_146 (nI_ne_m1 (by omega)))
      refine a_aload_0 rfl rfl ?_
      refine a_getr rfl rfl rfl (fun _ _ _ => rfl) rfl ?_
      refine a_iload_1 rfl rfl ?_
      refine a_iald rfl rfl (Or.inl rfl) rfl (by omega) (by decide) ?_
      refine a_as (y := _) f1 ?_
      refine a_statI rfl rfl (C2) (Nat.le_of_ble_eq_true rfl) ⟨rfl, rfl, rfl⟩ rfl rfl rfl (Nat.le_of_ble_eq_true rfl) rfl ?_
      refine a_cmpN_le rfl rfl rfl (by omega) (by omega) (fun c_162 => ?_) (fun c_162 => ?_)
      · refine a_iinc_2 rfl rfl (nI_inc _ _) rfl ?_
        refine a_goto rfl rfl ?_
        first | (rw [if_pos (by omega)] at Z; exact Z) | (rw [if_neg (by omega)] at Z; exact Z)
      · refine a_iload_2 rfl rfl ?_
        refine a_istore_1 rfl rfl rfl ?_
        refine a_iinc_2 rfl rfl (nI_inc _ _) rfl ?_
        refine a_goto rfl rfl ?_
        first | (rw [if_pos (by omega)] at Z; exact Z) | (rw [if_neg (by omega)] at Z; exact Z)
theorem p_ask (hA : okA A) : ∃ r, opP 960 5 149 [.ref 7] 6 306 [.ref 81] TX A B r A B := by
  refine ⟨(brS (tlN TX A) 30).1, ?_, ?_, hA, rfl⟩
  · intro L t lt rt rp sw h gl R H hR
    have c0 : CF [80] h (va_up h 80 (rw1 30 (fun _ => nI 0) (h 80))) := CF_up CF_refl rfl
    have H0 : CI A B TX R t lt (va_up h 80 (rw1 30 (fun _ => nI 0) (h 80))) := CI_cf H rfl rfl rfl rfl c0
    obtain ⟨h2, lt2, R2, c2, H2, r1, r2, j2, K⟩ := l_cask2 (L := L) (t := t) (rt := rt) (rp := rp) (sw := sw) (gl := gl) 16 0 R mvU mvU lt _ rfl rfl H0 (by omega) (fun j hj' => by
      rw [va_up_self, rw1_lt hj']
      exact ((bs_ext fun v hv => by unfold uC; rfl).trans (bs_zero 16)).symm)
    have C3 : avE 1 151 [.ref 7] (sX L t lt2 rt rp sw h2 gl) (some (.int (brS (tlN TX A) 30).1), sX L t lt2 rt rp sw h2 gl) := by
      show avA _ 151 0 [.ref 7, mvU, mvU, mvU, mvU] [] _ _
      refine a_iconst (v := (-1)) rfl rfl rfl ?_
      refine a_istore_1 rfl rfl rfl ?_
      refine a_iconst (v := (nI 0)) rfl rfl rfl ?_
      refine a_istore_2 rfl rfl rfl ?_
      refine a_iconst (v := (nI 0)) rfl rfl rfl ?_
      refine a_istore_3 rfl rfl rfl ?_
      exact l_most (CI_op H2) j2 30 0 _ rfl
    have Zf : ∀ y2 y3, avA 5 149 97 [.ref 7, .int (nI 16), y2, y3] [] (sX L t lt2 rt rp sw h2 gl) (some (.int (brS (tlN TX A) 30).1), sX L t lt2 rt rp sw h2 gl) := by
      intro y2 y3
      refine a_aload_0 rfl rfl ?_
      refine a_virtI rfl rfl (C3) (Nat.le_of_ble_eq_true rfl) ⟨rfl, rfl, rfl, rfl⟩ rfl rfl rfl (Nat.le_of_ble_eq_true rfl) rfl rfl ?_
      exact a_iret rfl rfl
    have A1 := K _ Zf
    refine ⟨h2, lt2, R2, sw, ?_, CF_trans (CF_cl rfl c0) c2, H2, r1, r2⟩
    show avA _ 149 0 [.ref 7, mvU, mvU, mvU] [] _ _
    refine a_iconst (v := (nI 0)) rfl rfl rfl ?_
    refine a_istore_1 rfl rfl rfl ?_
    refine av_h (h' := va_up h 80 (rw1 0 (fun _ => nI 0) (h 80))) (by rw [rw1_0, up_id]) (l_cask0 _ (h 80) 30 0 rfl ?_)
    refine a_iconst (v := (nI 0)) rfl rfl rfl ?_
    refine a_istore_1 rfl rfl rfl ?_
    exact A1
  · intro L t lt rt rp sw h gl ok H
    have c0 : CF [93] h (va_up h 93 (rw1 30 (fun _ => nI 0) (h 93))) := CF_up CF_refl rfl
    obtain ⟨h', gl', c1, k', K⟩ := l_rask3 (L := L) (t := t) (lt := lt) (rt := rt) (rp := rp) (sw := sw) ok 30 0 _ gl rfl (RI_cf H rfl c0) (fun j hj' => by
      rw [va_up_self, rw1_lt hj']
      unfold tR
      split
      · exact ((bs_ext fun v hv => by unfold uR; rfl).trans (bs_zero 16)).symm
      · rfl)
    have hj : ∀ j, j < 30 → ∃ p, h' 93 j = bsI 16 p ∧ cnt 16 p = tlN TX A j := fun j hj' => by
      rw [k' j hj']
      unfold tR tlN
      by_cases q : frA A j = true
      · rw [if_pos q, if_pos q]
        exact ⟨_, rfl, cnt_ext fun v _ => uRC_same TX A j v⟩
      · rw [if_neg q, if_neg q]
        exact ⟨fun _ => false, (bs_zero 16).symm, cnt_eq0.mpr fun _ _ => rfl⟩
    have Zf : ∀ y2 y3, mvIsL y2 = false → avA 6 306 125 [.ref 81, .int (nI 30), y2, y3] [] (sX L t lt rt rp sw h' gl') (some (.int (brS (tlN TX A) 30).1), sX L t lt rt rp sw h' gl') := by
      intro y2 y3 hy
      refine a_iconst (v := (-1)) rfl rfl rfl ?_
      refine a_istore_1 rfl rfl rfl ?_
      refine a_iconst (v := (nI 0)) rfl rfl rfl ?_
      refine a_istore_2 rfl rfl rfl ?_
      exact l_rmost _ hj 30 0 rfl
    have A1 := K _ mvU mvU rfl Zf
    refine ⟨h', gl', ?_, CF_trans (CF_rf rfl c0) (CF_rf rfl c1), fun j hj => by rw [c1 81 rfl]; rfl, RI_cf (RI_cf H rfl c0) rfl c1⟩
    show avA _ 306 0 [.ref 81, mvU, mvU, mvU] [] _ _
    refine a_iconst (v := (nI 0)) rfl rfl rfl ?_
    refine a_istore_1 rfl rfl rfl ?_
    refine av_h (h' := va_up h 93 (rw1 0 (fun _ => nI 0) (h 93))) (by rw [rw1_0, up_id]) (l_rask0 _ (h 93) 30 0 rfl ?_)
    refine a_iconst (v := (nI 0)) rfl rfl rfl ?_
    refine a_istore_1 rfl rfl rfl ?_
    exact A1
end AR
