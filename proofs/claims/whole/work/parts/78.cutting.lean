/-! CUTTING THE TAPE: the class's tokens -/
def TP (b : Nat → Nat) (k : Nat) (h : Nat → Nat → Int32) : Prop := h 68 1 = nI k ∧ k ≤ 300 ∧ ∀ i, i < k → h 69 i = nI (b i) ∧ b i < 256
abbrev pkT (pl nu tok : Nat) : Int32 := nI (pl * 1048576 + nu * 64 + tok)
theorem pk_tok (x y z : Nat) (hx : x < 1024) (hy : y < 16384) (hz : z < 64) : nI x <<< (nI 20 &&& 31) ||| nI y <<< (nI 6 &&& 31) ||| nI z = pkT x y z := by
  rw [pk_shlN _ 20 (by decide) (by omega), pk_shlN _ 6 (by decide) (by omega), nI_or, nI_or]
  congr 1
  rw [or_low (by omega), show x * 2 ^ 20 + y * 2 ^ 6 = (x * 16384 + y) * 2 ^ 6 by omega, or_low (by omega)]
/-- a token more -/
def AT (h h' : Nat → Nat → Int32) (c e : Nat) (v : Int32) : Prop := CF [68, 70] h h' ∧ h' 68 5 = nI e ∧ h' 68 3 = nI (c + 1) ∧ h' 70 c = v ∧ (∀ i, i ≠ c → h' 70 i = h 70 i) ∧ ∀ j, j ≠ 3 → j ≠ 5 → h' 68 j = h 68 j
theorem ws_m : ∀ w, w < 31 → WS w + 1 ≤ WS (w + 1) ∧ WS (w + 1) ≤ 151 := by decide +kernel
section CU
variable {L t : Nat} {lt rt rp : Option Nat} {sw : Bool} {gl : Nat → Nat → Int64} {b : Nat → Nat} {k : Nat}
theorem TP_fr {h h' : Nat → Nat → Int32} (H : TP b k h) (e1 : h' 68 1 = h 68 1) (e2 : h' 69 = h 69) : TP b k h' := ⟨e1.trans H.1, H.2.1, by rw [e2]; exact H.2.2⟩
theorem KI_fr {S : List Nat} {h h' : Nat → Nat → Int32} (H : KI h) (c : CF S h h') (hS : av S [1, 2, 3, 4, 5, 71] = true) : KI h' := by
  unfold KI
  rw [c 1 (av_of hS (by simp)), c 2 (av_of hS (by simp)), c 3 (av_of hS (by simp)), c 4 (av_of hS (by simp)), c 5 (av_of hS (by simp)), c 71 (av_of hS (by simp))]
  exact H
theorem e_addToken {h : Nat → Nat → Int32} {c e : Nat} (hc : h 68 3 = nI c) (he : h 68 5 = nI e) (lc : c ≤ 300) {tok nu pl : Nat} (h1 : tok < 64) (h2 : nu ≤ 10000) (h3 : pl ≤ 300) : ∃ h', avE 0 45 [.ref 68, .int (nI tok), .int (nI nu), .int (nI pl)] (sX L t lt rt rp sw h gl) (none, sX L t lt rt rp sw h' gl) ∧ AT h h' c e (pkT pl nu tok) := by
  refine ⟨mvPut (mvPut h 70 c (pkT pl nu tok)) 68 3 (nI (c + 1)), ?_, CF_put (CF_put CF_refl rfl) rfl, ?_, ?_, ?_, fun i hi => ?_, fun j h3 h5 => ?_⟩
  · show avA _ 45 0 [.ref 68, .int (nI (tok)), .int (nI (nu)), .int (nI (pl))] [] _ _
    refine a_aload_0 rfl rfl ?_
    refine a_geti rfl rfl rfl (fun _ _ _ => rfl) ?_
    refine a_as (y := nI (c)) hc ?_
    refine a_aload_0 rfl rfl ?_
    refine a_getr rfl rfl rfl (fun _ _ _ => rfl) rfl ?_
    refine a_alen rfl rfl rfl rfl ?_
    refine a_cmpN_ge rfl rfl rfl (by omega) (by omega) (fun c_9 => False.elim (by omega)) (fun _ => ?_)
    refine a_aload_0 rfl rfl ?_
    refine a_getr rfl rfl rfl (fun _ _ _ => rfl) rfl ?_
    refine a_aload_0 rfl rfl ?_
    refine a_geti rfl rfl rfl (fun _ _ _ => rfl) ?_
    refine a_as (y := nI (c)) hc ?_
    refine a_iload_3 rfl rfl ?_
    refine a_bipush (v := (nI 20)) rfl rfl rfl ?_
    refine a_ishl rfl rfl ?_
    refine a_iload_2 rfl rfl ?_
    refine a_bipush (v := (nI 6)) rfl rfl rfl ?_
    refine a_ishl rfl rfl ?_
    refine a_ior rfl rfl ?_
    refine a_iload_1 rfl rfl ?_
    refine a_ior rfl rfl ?_
    refine a_as (y := pkT pl nu tok) (pk_tok pl nu tok (by omega) (by omega) h1) ?_
    refine a_iast rfl rfl rfl rfl (by omega) (by decide) ?_
    refine a_aload_0 rfl rfl ?_
    refine a_dup rfl rfl rfl ?_
    refine a_geti rfl rfl rfl (fun _ _ _ => rfl) ?_
    refine a_as (y := nI (c)) (by rw [put_at]; simp; exact hc) ?_
    refine a_iconst (v := (nI 1)) rfl rfl rfl ?_
    refine a_iaddN rfl rfl ?_
    refine a_puti rfl rfl rfl rfl ?_
    exact a_vret rfl rfl
  · rw [put_at, put_at]; simp; exact he
  · rw [put_at]; simp
  · rw [put_at, put_at]; simp
  · rw [put_at, put_at]; simp [hi]
  · rw [put_at, put_at]; simp [h3]
theorem l_isWord {h : Nat → Nat → Int32} (K : KI h) (T : TP b k h) {w p q : Nat} (hw : w < 31) (hq : q ≤ k) (hp : p ≤ q) (en : wn w = q - p) (m : Nat) : ∀ i, i + m = wn w → (∀ j, j < i → WB (WS w + j) = b (p + j)) → avA 4 44 37 [.ref 68, .int (nI w), .int (nI p), .int (nI (WS w)), .int (nI (wn w)), .int (nI i)] [] (sX L t lt rt rp sw h gl) (some (.int (bI (isW b p q w = true))), sX L t lt rt rp sw h gl) := by
  obtain ⟨m1, m2⟩ := ws_m w hw
  have wE : wn w = WS (w + 1) - 1 - WS w := rfl
  have hk := T.2.1
  induction m with
  | zero =>
    intro i hi A
    have e : i = wn w := by omega
    have R : isW b p q w = true := by
      unfold isW
      rw [decide_eq_true en, Bool.true_and, List.all_eq_true]
      intro j hj
      rw [List.mem_range] at hj
      exact decide_eq_true (A j (by omega))
    rw [e]
    refine a_iload_5 rfl rfl ?_
    refine a_iload_4 rfl rfl ?_
    refine a_cmpN_ge rfl rfl rfl (by omega) (by omega) (fun _ => ?_) (fun c_41 => False.elim (by omega))
    refine a_iconst (v := (nI 1)) rfl rfl rfl ?_
    refine av_to (a_zret rfl rfl (Or.inr rfl)) (bz1 ?_)
    exact R
  | succ m ih =>
    intro i hi A
    obtain ⟨e1, l1⟩ := T.2.2 (p + i) (by omega)
    obtain ⟨_, l2⟩ := ms_wb (WS w + i) (by omega)
    have C := e_charAt (L := L) (t := t) (lt := lt) (rt := rt) (rp := rp) (sw := sw) (gl := gl) K (WS w + i) (by omega)
    by_cases d : WB (WS w + i) = b (p + i)
    · have Z := ih (i + 1) (by omega) (fun j hj => by
        by_cases e : j = i
        · rw [e]; exact d
        · exact A j (by omega))
      refine a_iload_5 rfl rfl ?_
      refine a_iload_4 rfl rfl ?_
      refine a_cmpN_ge rfl rfl rfl (by omega) (by omega) (fun c_41 => False.elim (by omega)) (fun _ => ?_)
      refine a_ldcS rfl rfl ?_
      refine a_iload_3 rfl rfl ?_
      refine a_iload_5 rfl rfl ?_
      refine a_iaddN rfl rfl ?_
      refine a_virtI rfl rfl (C) (Nat.le_of_ble_eq_true rfl) ⟨rfl, rfl, rfl, rfl⟩ rfl rfl rfl (Nat.le_of_ble_eq_true rfl) rfl rfl ?_
      refine a_aload_0 rfl rfl ?_
      refine a_getr rfl rfl rfl (fun _ _ _ => rfl) rfl ?_
      refine a_iload_2 rfl rfl ?_
      refine a_iload_5 rfl rfl ?_
      refine a_iaddN rfl rfl ?_
      refine a_iald rfl rfl (Or.inl rfl) rfl (by omega) (by decide) ?_
      refine a_as (y := nI (b (p + i))) e1 ?_
      refine a_cmpN_eq rfl rfl rfl (by omega) (by omega) (fun _ => ?_) (fun c_62 => False.elim (by omega))
      refine a_iinc_5 rfl rfl (nI_inc _ _) rfl ?_
      refine a_goto rfl rfl ?_
      exact Z
    · have R : ¬ isW b p q w = true := by
        unfold isW
        rw [decide_eq_true en, Bool.true_and, List.all_eq_true]
        intro a
        have := a i (List.mem_range.mpr (by omega))
        exact d (of_decide_eq_true this)
      refine a_iload_5 rfl rfl ?_
      refine a_iload_4 rfl rfl ?_
      refine a_cmpN_ge rfl rfl rfl (by omega) (by omega) (fun c_41 => False.elim (by omega)) (fun _ => ?_)
      refine a_ldcS rfl rfl ?_
      refine a_iload_3 rfl rfl ?_
      refine a_iload_5 rfl rfl ?_
      refine a_iaddN rfl rfl ?_
      refine a_virtI rfl rfl (C) (Nat.le_of_ble_eq_true rfl) ⟨rfl, rfl, rfl, rfl⟩ rfl rfl rfl (Nat.le_of_ble_eq_true rfl) rfl rfl ?_
      refine a_aload_0 rfl rfl ?_
      refine a_getr rfl rfl rfl (fun _ _ _ => rfl) rfl ?_
      refine a_iload_2 rfl rfl ?_
      refine a_iload_5 rfl rfl ?_
      refine a_iaddN rfl rfl ?_
      refine a_iald rfl rfl (Or.inl rfl) rfl (by omega) (by decide) ?_
      refine a_as (y := nI (b (p + i))) e1 ?_
      refine a_cmpN_eq rfl rfl rfl (by omega) (by omega) (fun c_62 => False.elim (by omega)) (fun _ => ?_)
      refine a_iconst (v := (nI 0)) rfl rfl rfl ?_
      refine av_to (a_zret rfl rfl (Or.inl rfl)) (bz0 ?_)
      exact R
theorem e_isWord {h : Nat → Nat → Int32} (K : KI h) (T : TP b k h) {w p q : Nat} (hw : w < 31) (hq : q ≤ k) (hp : p ≤ q) (h5 : h 68 5 = nI q) : avE 4 44 [.ref 68, .int (nI w), .int (nI p)] (sX L t lt rt rp sw h gl) (some (.int (bI (isW b p q w = true))), sX L t lt rt rp sw h gl) := by
  obtain ⟨m1, m2⟩ := ws_m w hw
  have wE : wn w = WS (w + 1) - 1 - WS w := rfl
  have hk := T.2.1
  by_cases en : wn w = q - p
  · have Z := l_isWord (L := L) (t := t) (lt := lt) (rt := rt) (rp := rp) (sw := sw) (gl := gl) K T hw hq hp en (wn w) 0 (by omega) (fun j hj => by omega)
    show avA _ 44 0 [.ref 68, .int (nI (w)), .int (nI (p)), mvU, mvU, mvU] [] _ _
    refine a_aload_0 rfl rfl ?_
    refine a_getr rfl rfl rfl (fun _ _ _ => rfl) rfl ?_
    refine a_iload_1 rfl rfl ?_
    refine a_iald rfl rfl (Or.inl rfl) rfl (by omega) (by decide) ?_
    refine a_as (y := nI (WS w)) (K.2.2.2.2.2 w (by omega)) ?_
    refine a_istore_3 rfl rfl rfl ?_
    refine a_aload_0 rfl rfl ?_
    refine a_getr rfl rfl rfl (fun _ _ _ => rfl) rfl ?_
    refine a_iload_1 rfl rfl ?_
    refine a_iconst (v := (nI 1)) rfl rfl rfl ?_
    refine a_iaddN rfl rfl ?_
    refine a_iald rfl rfl (Or.inl rfl) rfl (by omega) (by decide) ?_
    refine a_as (y := nI (WS (w + 1))) (K.2.2.2.2.2 (w + 1) (by omega)) ?_
    refine a_iconst (v := (nI 1)) rfl rfl rfl ?_
    refine a_isubN rfl rfl (by omega) ?_
    refine a_iload_3 rfl rfl ?_
    refine a_isubN rfl rfl (by omega) ?_
    refine a_istore_4 rfl rfl rfl ?_
    refine a_iload_4 rfl rfl ?_
    refine a_aload_0 rfl rfl ?_
    refine a_geti rfl rfl rfl (fun _ _ _ => rfl) ?_
    refine a_as (y := nI (q)) h5 ?_
    refine a_iload_2 rfl rfl ?_
    refine a_isubN rfl rfl (by omega) ?_
    refine a_cmpN_eq rfl rfl rfl (by omega) (by omega) (fun _ => ?_) (fun c_29 => False.elim (by omega))
    refine a_iconst (v := (nI 0)) rfl rfl rfl ?_
    refine a_istore_5 rfl rfl rfl ?_
    exact Z
  · have R : ¬ isW b p q w = true := by unfold isW; rw [decide_eq_false en, Bool.false_and]; simp
    show avA _ 44 0 [.ref 68, .int (nI (w)), .int (nI (p)), mvU, mvU, mvU] [] _ _
    refine a_aload_0 rfl rfl ?_
    refine a_getr rfl rfl rfl (fun _ _ _ => rfl) rfl ?_
    refine a_iload_1 rfl rfl ?_
    refine a_iald rfl rfl (Or.inl rfl) rfl (by omega) (by decide) ?_
    refine a_as (y := nI (WS w)) (K.2.2.2.2.2 w (by omega)) ?_
    refine a_istore_3 rfl rfl rfl ?_
    refine a_aload_0 rfl rfl ?_
    refine a_getr rfl rfl rfl (fun _ _ _ => rfl) rfl ?_
    refine a_iload_1 rfl rfl ?_
    refine a_iconst (v := (nI 1)) rfl rfl rfl ?_
    refine a_iaddN rfl rfl ?_
    refine a_iald rfl rfl (Or.inl rfl) rfl (by omega) (by decide) ?_
    refine a_as (y := nI (WS (w + 1))) (K.2.2.2.2.2 (w + 1) (by omega)) ?_
    refine a_iconst (v := (nI 1)) rfl rfl rfl ?_
    refine a_isubN rfl rfl (by omega) ?_
    refine a_iload_3 rfl rfl ?_
    refine a_isubN rfl rfl (by omega) ?_
    refine a_istore_4 rfl rfl rfl ?_
    refine a_iload_4 rfl rfl ?_
    refine a_aload_0 rfl rfl ?_
    refine a_geti rfl rfl rfl (fun _ _ _ => rfl) ?_
    refine a_as (y := nI (q)) h5 ?_
    refine a_iload_2 rfl rfl ?_
    refine a_isubN rfl rfl (by omega) ?_
    refine a_cmpN_eq rfl rfl rfl (by omega) (by omega) (fun c_29 => False.elim (by omega)) (fun _ => ?_)
    refine a_iconst (v := (nI 0)) rfl rfl rfl ?_
    refine av_to (a_zret rfl rfl (Or.inl rfl)) (bz0 ?_)
    exact R
/-- words: the letters -/
theorem l_cutW1 (p : Nat) (y : Value) (m : Nat) : ∀ (q : Nat) (h : Nat → Nat → Int32), k ≤ q + m → q ≤ k → TP b k h → h 68 5 = nI q → ∃ h', CF [68] h h' ∧ h' 68 5 = nI (rn isL b k q) ∧ (∀ j, j ≠ 5 → h' 68 j = h 68 j) ∧ ∀ r, avA 5 43 44 [.ref 68, .int (nI p), y] [] (sX L t lt rt rp sw h' gl) r → avA 5 43 5 [.ref 68, .int (nI p), y] [] (sX L t lt rt rp sw h gl) r := by
  induction m with
  | zero =>
    intro q h hm hq T h5
    have e : q = k := by omega
    have hk := T.2.1
    refine ⟨h, CF_refl, by rw [rn_e (fun a => by omega)]; exact h5, fun _ _ => rfl, fun r Z => ?_⟩
    refine a_aload_0 rfl rfl ?_
    refine a_geti rfl rfl rfl (fun _ _ _ => rfl) ?_
    refine a_as (y := nI (q)) h5 ?_
    refine a_aload_0 rfl rfl ?_
    refine a_geti rfl rfl rfl (fun _ _ _ => rfl) ?_
    refine a_as (y := nI (k)) T.1 ?_
    refine a_cmpN_ge rfl rfl rfl (by omega) (by omega) (fun _ => ?_) (fun c_13 => False.elim (by omega))
    exact Z
  | succ m ih =>
    intro q h hm hq T h5
    have hk := T.2.1
    by_cases c0 : q < k
    · obtain ⟨e1, l1⟩ := T.2.2 q c0
      by_cases c : isL (b q) = true
      · obtain ⟨h', a1, a2, a3, Z'⟩ := ih (q + 1) (mvPut h 68 5 (nI (q + 1))) (by omega) (by omega) (TP_fr T (by rw [put_at]; simp) rfl) (by rw [put_at]; simp)
        refine ⟨h', CF_trans (CF_put CF_refl rfl) a1, by rw [rn_s ⟨c0, c⟩]; exact a2, fun j hj => by rw [a3 j hj, put_at]; simp [hj], fun r Z0 => ?_⟩
        have Z := Z' r Z0
        refine a_aload_0 rfl rfl ?_
        refine a_geti rfl rfl rfl (fun _ _ _ => rfl) ?_
        refine a_as (y := nI (q)) h5 ?_
        refine a_aload_0 rfl rfl ?_
        refine a_geti rfl rfl rfl (fun _ _ _ => rfl) ?_
        refine a_as (y := nI (k)) T.1 ?_
        refine a_cmpN_ge rfl rfl rfl (by omega) (by omega) (fun c_13 => False.elim (by omega)) (fun _ => ?_)
        refine a_aload_0 rfl rfl ?_
        refine a_getr rfl rfl rfl (fun _ _ _ => rfl) rfl ?_
        refine a_aload_0 rfl rfl ?_
        refine a_geti rfl rfl rfl (fun _ _ _ => rfl) ?_
        refine a_as (y := nI (q)) h5 ?_
        refine a_iald rfl rfl (Or.inl rfl) rfl (by omega) (by decide) ?_
        refine a_as (y := nI (b q)) e1 ?_
        refine a_statI rfl rfl (t_isLetter (b q) l1) (Nat.le_of_ble_eq_true rfl) ⟨rfl, rfl, rfl⟩ rfl rfl rfl (Nat.le_of_ble_eq_true rfl) rfl ?_
        refine a_ifb_eq rfl rfl rfl (fun c_28 => by first | exact absurd c_28 (not_not_intro c) | exact absurd (not_not_intro c) c_28) (fun _ => ?_)
        refine a_aload_0 rfl rfl ?_
        refine a_dup rfl rfl rfl ?_
        refine a_geti rfl rfl rfl (fun _ _ _ => rfl) ?_
        refine a_as (y := nI (q)) h5 ?_
        refine a_iconst (v := (nI 1)) rfl rfl rfl ?_
        refine a_iaddN rfl rfl ?_
        refine a_puti rfl rfl rfl rfl ?_
        refine a_goto rfl rfl ?_
        exact Z
      · refine ⟨h, CF_refl, by rw [rn_e (fun a => c a.2)]; exact h5, fun _ _ => rfl, fun r Z => ?_⟩
        refine a_aload_0 rfl rfl ?_
        refine a_geti rfl rfl rfl (fun _ _ _ => rfl) ?_
        refine a_as (y := nI (q)) h5 ?_
        refine a_aload_0 rfl rfl ?_
        refine a_geti rfl rfl rfl (fun _ _ _ => rfl) ?_
        refine a_as (y := nI (k)) T.1 ?_
        refine a_cmpN_ge rfl rfl rfl (by omega) (by omega) (fun c_13 => False.elim (by omega)) (fun _ => ?_)
        refine a_aload_0 rfl rfl ?_
        refine a_getr rfl rfl rfl (fun _ _ _ => rfl) rfl ?_
        refine a_aload_0 rfl rfl ?_
        refine a_geti rfl rfl rfl (fun _ _ _ => rfl) ?_
        refine a_as (y := nI (q)) h5 ?_
        refine a_iald rfl rfl (Or.inl rfl) rfl (by omega) (by decide) ?_
        refine a_as (y := nI (b q)) e1 ?_
        refine a_statI rfl rfl (t_isLetter (b q) l1) (Nat.le_of_ble_eq_true rfl) ⟨rfl, rfl, rfl⟩ rfl rfl rfl (Nat.le_of_ble_eq_true rfl) rfl ?_
        refine a_ifb_eq rfl rfl rfl (fun _ => ?_) (fun c_28 => by first | exact absurd c c_28 | exact absurd c_28 c)
        exact Z
    · refine ⟨h, CF_refl, by rw [rn_e (fun a => by omega)]; exact h5, fun _ _ => rfl, fun r Z => ?_⟩
      refine a_aload_0 rfl rfl ?_
      refine a_geti rfl rfl rfl (fun _ _ _ => rfl) ?_
      refine a_as (y := nI (q)) h5 ?_
      refine a_aload_0 rfl rfl ?_
      refine a_geti rfl rfl rfl (fun _ _ _ => rfl) ?_
      refine a_as (y := nI (k)) T.1 ?_
      refine a_cmpN_ge rfl rfl rfl (by omega) (by omega) (fun _ => ?_) (fun c_13 => False.elim (by omega))
      exact Z
theorem l_cutW2 {h : Nat → Nat → Int32} (K : KI h) (T : TP b k h) {p q c : Nat} (hq : q ≤ k) (hp : p ≤ q) (h5 : h 68 5 = nI q) (h3 : h 68 3 = nI c) (lc : c ≤ 300) (m : Nat) : ∀ w, w + m = 31 → ∃ h', avA 5 43 46 [.ref 68, .int (nI p), .int (nI w)] [] (sX L t lt rt rp sw h gl) (none, sX L t lt rt rp sw h' gl) ∧ AT h h' c q (pkT p 0 (wcF b p q m w)) := by
  have hk := T.2.1
  induction m with
  | zero =>
    intro w hw
    have e : w = 31 := by omega
    subst e
    obtain ⟨h', C, A⟩ := e_addToken (L := L) (t := t) (lt := lt) (rt := rt) (rp := rp) (sw := sw) (gl := gl) h3 h5 lc (tok := 47) (nu := 0) (pl := p) (by omega) (by omega) (by omega)
    refine ⟨h', ?_, A⟩
    refine a_iload_2 rfl rfl ?_
    refine a_bipush (v := (nI 31)) rfl rfl rfl ?_
    refine a_cmpN_ge rfl rfl rfl (by omega) (by omega) (fun _ => ?_) (fun c_49 => absurd c_49 (by decide))
    refine a_aload_0 rfl rfl ?_
    refine a_bipush (v := (nI 47)) rfl rfl rfl ?_
    refine a_iconst (v := (nI 0)) rfl rfl rfl ?_
    refine a_iload_1 rfl rfl ?_
    refine a_virt0 rfl rfl (C) (Nat.le_of_ble_eq_true rfl) ⟨rfl, rfl, rfl, rfl⟩ rfl rfl rfl (Nat.le_of_ble_eq_true rfl) rfl rfl ?_
    exact a_vret rfl rfl
  | succ m ih =>
    intro w hw
    have I := e_isWord (L := L) (t := t) (lt := lt) (rt := rt) (rp := rp) (sw := sw) (gl := gl) K T (w := w) (by omega) hq hp h5
    rw [wcF]
    by_cases d : isW b p q w = true
    · rw [if_pos d]
      obtain ⟨h', C, A⟩ := e_addToken (L := L) (t := t) (lt := lt) (rt := rt) (rp := rp) (sw := sw) (gl := gl) h3 h5 lc (tok := w) (nu := 0) (pl := p) (by omega) (by omega) (by omega)
      refine ⟨h', ?_, A⟩
      refine a_iload_2 rfl rfl ?_
      refine a_bipush (v := (nI 31)) rfl rfl rfl ?_
      refine a_cmpN_ge rfl rfl rfl (by omega) (by omega) (fun c_49 => False.elim (by omega)) (fun _ => ?_)
      refine a_aload_0 rfl rfl ?_
      refine a_iload_2 rfl rfl ?_
      refine a_iload_1 rfl rfl ?_
      refine a_virtI rfl rfl (I) (Nat.le_of_ble_eq_true rfl) ⟨rfl, rfl, rfl, rfl⟩ rfl rfl rfl (Nat.le_of_ble_eq_true rfl) rfl rfl ?_
      refine a_ifb_eq rfl rfl rfl (fun c_58 => by first | exact absurd c_58 (not_not_intro d) | exact absurd (not_not_intro d) c_58) (fun _ => ?_)
      refine a_aload_0 rfl rfl ?_
      refine a_iload_2 rfl rfl ?_
      refine a_iconst (v := (nI 0)) rfl rfl rfl ?_
      refine a_iload_1 rfl rfl ?_
      refine a_virt0 rfl rfl (C) (Nat.le_of_ble_eq_true rfl) ⟨rfl, rfl, rfl, rfl⟩ rfl rfl rfl (Nat.le_of_ble_eq_true rfl) rfl rfl ?_
      exact a_vret rfl rfl
    · rw [if_neg d]
      obtain ⟨h', Z, A⟩ := ih (w + 1) (by omega)
      refine ⟨h', ?_, A⟩
      refine a_iload_2 rfl rfl ?_
      refine a_bipush (v := (nI 31)) rfl rfl rfl ?_
      refine a_cmpN_ge rfl rfl rfl (by omega) (by omega) (fun c_49 => False.elim (by omega)) (fun _ => ?_)
      refine a_aload_0 rfl rfl ?_
      refine a_iload_2 rfl rfl ?_
      refine a_iload_1 rfl rfl ?_
      refine a_virtI rfl rfl (I) (Nat.le_of_ble_eq_true rfl) ⟨rfl, rfl, rfl, rfl⟩ rfl rfl rfl (Nat.le_of_ble_eq_true rfl) rfl rfl ?_
      refine a_ifb_eq rfl rfl rfl (fun _ => ?_) (fun c_58 => by first | exact absurd d c_58 | exact absurd c_58 d)
      refine a_iinc_2 rfl rfl (nI_inc _ _) rfl ?_
      refine a_goto rfl rfl ?_
      exact Z
theorem AT_pre {h h1 h' : Nat → Nat → Int32} {c e : Nat} {v : Int32} (c1 : CF [68] h h1) (o1 : ∀ j, j ≠ 5 → h1 68 j = h 68 j) (A : AT h1 h' c e v) : AT h h' c e v := by
  obtain ⟨a1, a2, a3, a4, a5, a6⟩ := A
  exact ⟨CF_trans (CF_mono (by decide) c1) a1, a2, a3, a4, fun i hi => by rw [a5 i hi, c1 70 rfl], fun j x y => by rw [a6 j x y, o1 j y]⟩
theorem e_cutWord {h : Nat → Nat → Int32} (K : KI h) (T : TP b k h) {p c : Nat} (hp : p ≤ k) (h5 : h 68 5 = nI p) (h3 : h 68 3 = nI c) (lc : c ≤ 300) : ∃ h', avE 5 43 [.ref 68] (sX L t lt rt rp sw h gl) (none, sX L t lt rt rp sw h' gl) ∧ AT h h' c (rn isL b k p) (pkT p 0 (wc b p (rn isL b k p))) := by
  have hk := T.2.1
  obtain ⟨h1, c1, e5, o1, Q⟩ := l_cutW1 (L := L) (t := t) (lt := lt) (rt := rt) (rp := rp) (sw := sw) (gl := gl) (b := b) (k := k) p mvU k p h (by omega) hp T h5
  obtain ⟨h', Z, A⟩ := l_cutW2 (L := L) (t := t) (lt := lt) (rt := rt) (rp := rp) (sw := sw) (gl := gl) (KI_fr K c1 rfl) (TP_fr T (o1 1 (by omega)) (c1 69 rfl)) (rn_le hp) (rn_ge _ _ _ p) e5 ((o1 3 (by omega)).trans h3) lc 31 0 rfl
  refine ⟨h', ?_, AT_pre c1 o1 A⟩
  have Z9 := Q _ (a_iconst (v := nI 0) rfl rfl rfl (a_istore_2 rfl rfl rfl Z))
  show avA _ 43 0 [.ref 68, mvU, mvU] [] _ _
  refine a_aload_0 rfl rfl ?_
  refine a_geti rfl rfl rfl (fun _ _ _ => rfl) ?_
  refine a_as (y := nI (p)) h5 ?_
  refine a_istore_1 rfl rfl rfl ?_
  exact Z9
end CU
