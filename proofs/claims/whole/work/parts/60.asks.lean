/-! WAYS, ROOMS, FLOODS as calls; what is lit -/
section W1
variable {A B : Nat → Int32} {TX : Nat → Txt}
theorem p_steps (hA : okA A) (a b : Int32) : ∃ r, opP 0 3 131 [.ref 7, .int a, .int b] 6 289 [.ref 81, .int a, .int b] TX A B r A B := by
  refine ⟨btw (frA A) a b, ?_, ?_, hA, rfl⟩
  · intro L t lt rt rp sw h gl R H hR
    obtain ⟨F, G, C, P⟩ := e_between (L := L) (t := t) (lt := lt) (rt := rt) (rp := rp) (sw := sw) (gl := gl) a b (frA A) (CI_rP H)
    refine ⟨_, lt, R, sw, ?_, CF_cl rfl CF_path, CI_path H P, by omega, by omega⟩
    show avA _ 131 0 [.ref 7, .int (a), .int (b)] [] _ _
    refine a_aload_0 rfl rfl ?_
    refine a_getr rfl rfl rfl (fun _ _ _ => rfl) rfl ?_
    refine a_iload_1 rfl rfl ?_
    refine a_iload_2 rfl rfl ?_
    refine a_virtI rfl rfl (C) (Nat.le_of_ble_eq_true rfl) ⟨rfl, rfl, rfl, rfl⟩ rfl rfl rfl (Nat.le_of_ble_eq_true rfl) rfl rfl ?_
    exact a_iret rfl rfl
  · intro L t lt rt rp sw h gl ok H
    obtain ⟨G, C⟩ := r_steps (L := L) (t := t) (lt := lt) (rt := rt) (rp := rp) (sw := sw) (h := h) (gl := gl) a b
    rw [H.1] at C
    exact ⟨_, gl, C, CF_up CF_refl rfl, fun _ _ => rfl, RI_cf H (S := [91]) rfl (CF_up CF_refl rfl)⟩
theorem p_way (hA : okA A) (a b i : Int32) : ∃ r, opP 0 4 132 [.ref 7, .int a, .int b, .int i] 5 290 [.ref 81, .int a, .int b, .int i] TX A B r A B := by
  obtain ⟨v, _, hv, _⟩ := r_way (L := 0) (t := 0) (lt := none) (rt := none) (rp := none) (sw := false) (h := fun _ => A) (gl := fun _ _ => 0) a b i
  refine ⟨v, ?_, ?_, hA, rfl⟩
  · intro L t lt rt rp sw h gl R H hR
    obtain ⟨v', F, G, hv', C, P⟩ := c_way (L := L) (t := t) (lt := lt) (rt := rt) (rp := rp) (sw := sw) (h := h) (gl := gl) a b i (frA A) (CI_rP H)
    rw [wyR_un hv' hv] at C
    exact ⟨_, lt, R, sw, C, CF_cl rfl CF_path, CI_path H P, by omega, by omega⟩
  · intro L t lt rt rp sw h gl ok H
    obtain ⟨v', G, hv', C⟩ := r_way (L := L) (t := t) (lt := lt) (rt := rt) (rp := rp) (sw := sw) (h := h) (gl := gl) a b i
    rw [H.1] at hv'
    rw [wyR_un hv' hv] at C
    exact ⟨_, gl, C, CF_up CF_refl rfl, fun _ _ => rfl, RI_cf H (S := [91]) rfl (CF_up CF_refl rfl)⟩
theorem p_room (hA : okA A) (c : Int32) : ∃ r, opP 0 2 136 [.ref 7, .int c] 6 291 [.ref 81, .int c] TX A B r A B := by
  refine ⟨rmV (frA A) c, ?_, ?_, hA, rfl⟩
  · intro L t lt rt rp sw h gl R H hR
    exact ⟨h, lt, R, sw, c_room (frA A) (CI_op H) c, CF_refl, H, by omega, by omega⟩
  · intro L t lt rt rp sw h gl ok H
    obtain ⟨G, C⟩ := r_room (L := L) (t := t) (lt := lt) (rt := rt) (rp := rp) (sw := sw) (h := h) (gl := gl) c
    rw [H.1] at C
    exact ⟨_, gl, C, CF_up CF_refl rfl, fun _ _ => rfl, RI_cf H (S := [91]) rfl (CF_up CF_refl rfl)⟩
theorem p_rooms (hA : okA A) (w : Int32) : ∃ r, opP 0 2 134 [.ref 7, .int w] 6 292 [.ref 81, .int w] TX A B r A B := by
  refine ⟨rmsV (frA A) w, ?_, ?_, hA, rfl⟩
  · intro L t lt rt rp sw h gl R H hR
    exact ⟨h, lt, R, sw, c_rooms (frA A) (CI_op H) w, CF_refl, H, by omega, by omega⟩
  · intro L t lt rt rp sw h gl ok H
    obtain ⟨G, C⟩ := r_rooms (L := L) (t := t) (lt := lt) (rt := rt) (rp := rp) (sw := sw) (h := h) (gl := gl) w
    rw [H.1] at C
    exact ⟨_, gl, C, CF_up CF_refl rfl, fun _ _ => rfl, RI_cf H (S := [91]) rfl (CF_up CF_refl rfl)⟩
theorem p_flood (hA : okA A) (v : Int32) : ∃ r, opP 0 2 160 [.ref 7, .int v] 3 309 [.ref 81, .int v] TX A B r A B := by
  by_cases hv : 0 ≤ v.toInt ∧ v.toInt ≤ 9
  · refine ⟨flV (fun j => A (68 + j)) v, ?_, ?_, hA, rfl⟩
    · intro L t lt rt rp sw h gl R H hR
      have C := c_flood_T (L := L) (t := t) (lt := lt) (rt := rt) (rp := rp) (sw := sw) (h := h) (gl := gl) v hv
      rw [flV_ext (fun j hj => (H.2.2.2.1.1 j hj).2) v] at C
      exact ⟨h, lt, R, sw, C, CF_refl, H, by omega, by omega⟩
    · intro L t lt rt rp sw h gl ok H
      have C := r_flood_T (L := L) (t := t) (lt := lt) (rt := rt) (rp := rp) (sw := sw) (h := h) (gl := gl) v hv
      rw [H.1] at C
      exact ⟨h, gl, C, CF_refl, fun _ _ => rfl, H⟩
  · refine ⟨-1, ?_, ?_, hA, rfl⟩
    · intro L t lt rt rp sw h gl R H hR
      exact ⟨h, lt, R, sw, c_flood_F v hv, CF_refl, H, by omega, by omega⟩
    · intro L t lt rt rp sw h gl ok H
      exact ⟨h, gl, r_flood_F v hv, CF_refl, fun _ _ => rfl, H⟩
theorem p_wet (hA : okA A) (c : Int32) : ∃ r, opP 0 3 162 [.ref 7, .int c] 3 312 [.ref 81, .int c] TX A B r A B := by
  by_cases hc : inC c
  · obtain ⟨n, hn, rfl⟩ := inC_of hc
    refine ⟨wtV (fun j => A (68 + j)) n 9 1, ?_, ?_, hA, rfl⟩
    · intro L t lt rt rp sw h gl R H hR
      have C := c_wet_T (L := L) (t := t) (lt := lt) (rt := rt) (rp := rp) (sw := sw) (h := h) (gl := gl) n hn
      rw [wtV_ext (fun j hj => (H.2.2.2.1.1 j hj).2) n 9 1] at C
      exact ⟨h, lt, R, sw, C, CF_refl, H, by omega, by omega⟩
    · intro L t lt rt rp sw h gl ok H
      have C := r_wet_T (L := L) (t := t) (lt := lt) (rt := rt) (rp := rp) (sw := sw) (h := h) (gl := gl) n hn
      rw [H.1] at C
      exact ⟨h, gl, C, CF_refl, fun _ _ => rfl, H⟩
  · refine ⟨-1, ?_, ?_, hA, rfl⟩
    · intro L t lt rt rp sw h gl R H hR
      exact ⟨h, lt, R, sw, c_wet_F c hc, CF_refl, H, by omega, by omega⟩
    · intro L t lt rt rp sw h gl ok H
      exact ⟨h, gl, r_wet_F c hc, CF_refl, fun _ _ => rfl, H⟩
end W1
/-- the brightest of the first cells -/
def brS (f : Nat → Nat) : Nat → Int32 × Nat
  | 0 => (-1, 0)
  | c + 1 => if (brS f c).2 < f c then (nI c, f c) else brS f c
theorem brS_le (f : Nat → Nat) (n : Nat) : (∀ c, c < n → f c ≤ 15) → (brS f n).2 ≤ 15 := by
  induction n with
  | zero => intro _; exact Nat.zero_le _
  | succ n ih =>
    intro h
    rw [brS]
    split
    · exact h n (by omega)
    · exact ih (fun c hc => h c (by omega))
def liB (A : Nat → Int32) (f : Nat → Nat) (n : Nat) : Nat → Bool := fun c => frA A c && decide (n ≤ f c)
section BR
variable {L t : Nat} {lt rt rp : Option Nat} {sw : Bool} {gl : Nat → Nat → Int64} {A B : Nat → Int32} {TX : Nat → Txt} {R : Nat} {fl : Nat → Option (E1 → Int)} {mo : Int32} {ho sz : Nat}
theorem l_cbright (m : Nat) : ∀ (c : Nat) (y4 : Value) (h : Nat → Nat → Int32), c + m = 30 → LW fl A h t lt mo R ho sz → ∃ h', avA 4 171 10 [.ref 7, .int (brS (ltV (fl 0) A ho sz mo) c).1, .int (nI (brS (ltV (fl 0) A ho sz mo) c).2), .int (nI c), y4] [] (sX L t lt rt rp sw h gl) (some (.int (brS (ltV (fl 0) A ho sz mo) 30).1), sX L t lt rt rp sw h' gl) ∧ CF [34, 35, 39] h h' ∧ LW fl A h' t lt mo R ho sz := by
  induction m with
  | zero =>
    intro c y4 h hc W
    have e : c = 30 := by omega
    subst e
    refine ⟨h, ?_, CF_refl, W⟩
    refine a_iload_3 rfl rfl ?_
    refine a_bipush (v := (nI 30)) rfl rfl rfl ?_
    refine a_cmpN_ge rfl rfl rfl (by omega) (by omega) (fun _ => ?_) (fun c_13 => absurd c_13 (by decide))
    refine a_iload_1 rfl rfl ?_
    exact a_iret rfl rfl
  | succ m ih =>
    intro c y4 h hc W
    obtain ⟨h1, C, c1, W1⟩ := e_lightL (L := L) (rt := rt) (rp := rp) (sw := sw) (gl := gl) W (nI c)
    rw [ltC_N _ _ _ _ _ (by omega)] at C
    obtain ⟨h', Z, c2, W2⟩ := ih (c + 1) (.int (nI (ltV (fl 0) A ho sz mo c))) h1 (by omega) W1
    have l1 := ltV_le (fl 0) A ho sz mo c
    have l2 := brS_le (ltV (fl 0) A ho sz mo) c (fun c _ => ltV_le _ _ _ _ _ _)
    rw [brS] at Z
    refine ⟨h', ?_, CF_trans c1 c2, W2⟩
    refine a_iload_3 rfl rfl ?_
    refine a_bipush (v := (nI 30)) rfl rfl rfl ?_
    refine a_cmpN_ge rfl rfl rfl (by omega) (by omega) (fun c_13 => False.elim (by omega)) (fun _ => ?_)
    refine a_aload_0 rfl rfl ?_
    refine a_getr rfl rfl rfl (fun _ _ _ => rfl) rfl ?_
    refine a_iload_3 rfl rfl ?_
    refine a_virtI rfl rfl (C) (Nat.le_of_ble_eq_true rfl) ⟨rfl, rfl, rfl, rfl⟩ rfl rfl rfl (Nat.le_of_ble_eq_true rfl) rfl rfl ?_
    refine a_istore_4 rfl rfl rfl ?_
    refine a_iload_4 rfl rfl ?_
    refine a_iload_2 rfl rfl ?_
    refine a_cmpN_le rfl rfl rfl (by omega) (by omega) (fun c_29 => ?_) (fun c_29 => ?_)
    · refine a_iinc_3 rfl rfl (nI_inc _ _) rfl ?_
      refine a_goto rfl rfl ?_
      first | (rw [if_pos (by omega)] at Z; exact Z) | (rw [if_neg (by omega)] at Z; exact Z)
    · refine a_iload_4 rfl rfl ?_
      refine a_istore_2 rfl rfl rfl ?_
      refine a_iload_3 rfl rfl ?_
      refine a_istore_1 rfl rfl rfl ?_
      refine a_iinc_3 rfl rfl (nI_inc _ _) rfl ?_
      refine a_goto rfl rfl ?_
      first | (rw [if_pos (by omega)] at Z; exact Z) | (rw [if_neg (by omega)] at Z; exact Z)
theorem l_rbright {h : Nat → Nat → Int32} (f : Nat → Nat) (hf : ∀ k, k < 30 → h 88 k = nI (f k) ∧ f k ≤ 15) (m : Nat) : ∀ c, c + m = 30 → avA 7 302 10 [.ref 81, .int (brS f c).1, .int (nI (brS f c).2), .int (nI c)] [] (sX L t lt rt rp sw h gl) (some (.int (brS f 30).1), sX L t lt rt rp sw h gl) := by
  induction m with
  | zero =>
    intro c hc
    have e : c = 30 := by omega
    subst e
    refine a_iload_3 rfl rfl ?_
    refine a_bipush (v := (nI 30)) rfl rfl rfl ?_
    refine a_cmpN_ge rfl rfl rfl (by omega) (by omega) (fun _ => ?_) (fun c_13 => absurd c_13 (by decide))
    refine a_iload_1 rfl rfl ?_
    exact a_iret rfl rfl
  | succ m ih =>
    intro c hc
    obtain ⟨e1, l1⟩ := hf c (by omega)
    have l2 := brS_le f c (fun c hc => (hf c (by omega)).2)
    have Z := ih (c + 1) (by omega)
    rw [brS] at Z
    refine a_iload_3 rfl rfl ?_
    refine a_bipush (v := (nI 30)) rfl rfl rfl ?_
    refine a_cmpN_ge rfl rfl rfl (by omega) (by omega) (fun c_13 => False.elim (by omega)) (fun _ => ?_)
    refine a_aload_0 rfl rfl ?_
    refine a_getr rfl rfl rfl (fun _ _ _ => rfl) rfl ?_
    refine a_iload_3 rfl rfl ?_
    refine a_iald rfl rfl (Or.inl rfl) rfl (by omega) (by decide) ?_
    refine a_as (y := nI (f c)) e1 ?_
    refine a_iload_2 rfl rfl ?_
    refine a_cmpN_gt rfl rfl rfl (by omega) (by omega) (fun c_23 => ?_) (fun c_23 => ?_)
    · refine a_aload_0 rfl rfl ?_
      refine a_getr rfl rfl rfl (fun _ _ _ => rfl) rfl ?_
      refine a_iload_3 rfl rfl ?_
      refine a_iald rfl rfl (Or.inl rfl) rfl (by omega) (by decide) ?_
      refine a_as (y := nI (f c)) e1 ?_
      refine a_istore_2 rfl rfl rfl ?_
      refine a_iload_3 rfl rfl ?_
      refine a_istore_1 rfl rfl rfl ?_
      refine a_iinc_3 rfl rfl (nI_inc _ _) rfl ?_
      refine a_goto rfl rfl ?_
      first | (rw [if_pos (by omega)] at Z; exact Z) | (rw [if_neg (by omega)] at Z; exact Z)
    · refine a_goto rfl rfl ?_
      refine a_iinc_3 rfl rfl (nI_inc _ _) rfl ?_
      refine a_goto rfl rfl ?_
      first | (rw [if_pos (by omega)] at Z; exact Z) | (rw [if_neg (by omega)] at Z; exact Z)
theorem l_clit (n : Nat) (hn : n ≤ 15) (m : Nat) : ∀ (c : Nat) (h : Nat → Nat → Int32), c + m = 30 → LW fl A h t lt mo R ho sz → ∃ h', avA 3 144 4 [.ref 8, .int (nI n), .int (bsI c (liB A (ltV (fl 0) A ho sz mo) n)), .int (nI c)] [] (sX L t lt rt rp sw h gl) (some (.int (bsI 30 (liB A (ltV (fl 0) A ho sz mo) n))), sX L t lt rt rp sw h' gl) ∧ CF [34, 35, 39] h h' ∧ LW fl A h' t lt mo R ho sz := by
  induction m with
  | zero =>
    intro c h hc W
    have e : c = 30 := by omega
    subst e
    refine ⟨h, ?_, CF_refl, W⟩
    refine a_iload_3 rfl rfl ?_
    refine a_bipush (v := (nI 30)) rfl rfl rfl ?_
    refine a_cmpN_ge rfl rfl rfl (by omega) (by omega) (fun _ => ?_) (fun c_7 => absurd c_7 (by decide))
    refine a_iload_2 rfl rfl ?_
    exact a_iret rfl rfl
  | succ m ih =>
    intro c h hc W
    have etb : tb (bsI 30 (frA A)) c = frA A c := by rw [tb_bs (by omega)]; simp; omega
    cases q : frA A c with
    | false =>
      obtain ⟨h', Z, c2, W2⟩ := ih (c + 1) h (by omega) W
      rw [bs_succF (p := liB A (ltV (fl 0) A ho sz mo) n) (by unfold liB; rw [q]; rfl)] at Z
      refine ⟨h', ?_, c2, W2⟩
      refine a_iload_3 rfl rfl ?_
      refine a_bipush (v := (nI 30)) rfl rfl rfl ?_
      refine a_cmpN_ge rfl rfl rfl (by omega) (by omega) (fun c_7 => False.elim (by omega)) (fun _ => ?_)
      refine a_aload_0 rfl rfl ?_
      refine a_getr rfl rfl rfl (fun _ _ _ => rfl) rfl ?_
      refine a_geti rfl rfl rfl (fun _ _ _ => rfl) ?_
      refine a_as (y := _) (LW_op W) ?_
      refine a_iload_3 rfl rfl ?_
      refine a_statI rfl rfl (e_has (bsI 30 (frA A)) c (by omega)) (Nat.le_of_ble_eq_true rfl) ⟨rfl, rfl, rfl⟩ rfl rfl rfl (Nat.le_of_ble_eq_true rfl) rfl ?_
      refine a_ifb_eq rfl rfl rfl (fun _ => ?_) (fun c_21 => by first | exact absurd (by rw [etb, q]; decide) c_21 | exact absurd c_21 (by rw [etb, q]; decide))
      refine a_iinc_3 rfl rfl (nI_inc _ _) rfl ?_
      refine a_goto rfl rfl ?_
      exact Z
    | true =>
      obtain ⟨h1, C, c1, W1⟩ := e_lightL (L := L) (rt := rt) (rp := rp) (sw := sw) (gl := gl) W (nI c)
      rw [ltC_N _ _ _ _ _ (by omega)] at C
      obtain ⟨h', Z, c2, W2⟩ := ih (c + 1) h1 (by omega) W1
      have l1 := ltV_le (fl 0) A ho sz mo c
      refine ⟨h', ?_, CF_trans c1 c2, W2⟩
      refine a_iload_3 rfl rfl ?_
      refine a_bipush (v := (nI 30)) rfl rfl rfl ?_
      refine a_cmpN_ge rfl rfl rfl (by omega) (by omega) (fun c_7 => False.elim (by omega)) (fun _ => ?_)
      refine a_aload_0 rfl rfl ?_
      refine a_getr rfl rfl rfl (fun _ _ _ => rfl) rfl ?_
      refine a_geti rfl rfl rfl (fun _ _ _ => rfl) ?_
      refine a_as (y := _) (LW_op W) ?_
      refine a_iload_3 rfl rfl ?_
      refine a_statI rfl rfl (e_has (bsI 30 (frA A)) c (by omega)) (Nat.le_of_ble_eq_true rfl) ⟨rfl, rfl, rfl⟩ rfl rfl rfl (Nat.le_of_ble_eq_true rfl) rfl ?_
      refine a_ifb_eq rfl rfl rfl (fun c_21 => by first | exact absurd c_21 (not_not_intro (by rw [etb, q])) | exact absurd (not_not_intro (by rw [etb, q])) c_21) (fun _ => ?_)
      refine a_aload_0 rfl rfl ?_
      refine a_iload_3 rfl rfl ?_
      refine a_virtI rfl rfl (C) (Nat.le_of_ble_eq_true rfl) ⟨rfl, rfl, rfl, rfl⟩ rfl rfl rfl (Nat.le_of_ble_eq_true rfl) rfl rfl ?_
      refine a_iload_1 rfl rfl ?_
      refine a_cmpN_lt rfl rfl rfl (by omega) (by omega) (fun c_30 => ?_) (fun c_30 => ?_)
      · refine a_iinc_3 rfl rfl (nI_inc _ _) rfl ?_
        refine a_goto rfl rfl ?_
        first | (rw [← bs_succT (p := liB A (ltV (fl 0) A ho sz mo) n) (by omega) (by unfold liB; rw [q]; simp; omega)] at Z; exact Z) | (rw [bs_succF (p := liB A (ltV (fl 0) A ho sz mo) n) (by unfold liB; rw [q]; simp; omega)] at Z; exact Z)
      · refine a_iload_2 rfl rfl ?_
        refine a_iconst (v := (nI 1)) rfl rfl rfl ?_
        refine a_iload_3 rfl rfl ?_
        refine a_ishl rfl rfl ?_
        refine a_ior rfl rfl ?_
        refine a_istore_2 rfl rfl rfl ?_
        refine a_iinc_3 rfl rfl (nI_inc _ _) rfl ?_
        refine a_goto rfl rfl ?_
        first | (rw [← bs_succT (p := liB A (ltV (fl 0) A ho sz mo) n) (by omega) (by unfold liB; rw [q]; simp; omega)] at Z; exact Z) | (rw [bs_succF (p := liB A (ltV (fl 0) A ho sz mo) n) (by unfold liB; rw [q]; simp; omega)] at Z; exact Z)
theorem e_litCells (n : Nat) (hn : n ≤ 15) {h : Nat → Nat → Int32} (W : LW fl A h t lt mo R ho sz) : ∃ h', avE 3 144 [.ref 8, .int (nI n)] (sX L t lt rt rp sw h gl) (some (.int (bsI 30 (liB A (ltV (fl 0) A ho sz mo) n))), sX L t lt rt rp sw h' gl) ∧ CF [34, 35, 39] h h' ∧ LW fl A h' t lt mo R ho sz := by
  obtain ⟨h', Z, c, W'⟩ := l_clit (L := L) (rt := rt) (rp := rp) (sw := sw) (gl := gl) n hn 30 0 h rfl W
  refine ⟨h', ?_, c, W'⟩
  show avA _ 144 0 [.ref 8, .int (nI (n)), mvU, mvU] [] _ _
  refine a_iconst (v := (nI 0)) rfl rfl rfl ?_
  refine a_istore_2 rfl rfl rfl ?_
  refine a_iconst (v := (nI 0)) rfl rfl rfl ?_
  refine a_istore_3 rfl rfl rfl ?_
  exact Z
theorem l_rlit {h : Nat → Nat → Int32} (H : h 82 = A) (f : Nat → Nat) (hf : ∀ k, k < 30 → h 88 k = nI (f k) ∧ f k ≤ 15) (n : Nat) (hn : n ≤ 15) (m : Nat) : ∀ c, c + m = 30 → avA 7 301 8 [.ref 81, .int (nI n), .int (bsI c (liB A f n)), .int (nI c)] [] (sX L t lt rt rp sw h gl) (some (.int (bsI 30 (liB A f n))), sX L t lt rt rp sw h gl) := by
  induction m with
  | zero =>
    intro c hc
    have e : c = 30 := by omega
    subst e
    refine a_iload_3 rfl rfl ?_
    refine a_bipush (v := (nI 30)) rfl rfl rfl ?_
    refine a_cmpN_ge rfl rfl rfl (by omega) (by omega) (fun _ => ?_) (fun c_11 => absurd c_11 (by decide))
    refine a_iload_2 rfl rfl ?_
    exact a_iret rfl rfl
  | succ m ih =>
    intro c hc
    obtain ⟨e1, l1⟩ := hf c (by omega)
    have Z := ih (c + 1) (by omega)
    have C := r_isFreeN (L := L) (t := t) (lt := lt) (rt := rt) (rp := rp) (sw := sw) (h := h) (gl := gl) c (by omega)
    rw [H] at C
    cases q : frA A c with
    | false =>
      rw [bs_succF (p := liB A f n) (by unfold liB; rw [q]; rfl)] at Z
      refine a_iload_3 rfl rfl ?_
      refine a_bipush (v := (nI 30)) rfl rfl rfl ?_
      refine a_cmpN_ge rfl rfl rfl (by omega) (by omega) (fun c_11 => False.elim (by omega)) (fun _ => ?_)
      refine a_iload_2 rfl rfl ?_
      refine a_aload_0 rfl rfl ?_
      refine a_iload_3 rfl rfl ?_
      refine a_virtI rfl rfl (C) (Nat.le_of_ble_eq_true rfl) ⟨rfl, rfl, rfl, rfl⟩ rfl rfl rfl (Nat.le_of_ble_eq_true rfl) rfl rfl ?_
      refine a_ifb_eq rfl rfl rfl (fun _ => ?_) (fun c_20 => by first | exact absurd (by rw [q]; decide) c_20 | exact absurd c_20 (by rw [q]; decide))
      refine a_iconst (v := (nI 0)) rfl rfl rfl ?_
      refine a_ior rfl rfl ?_
      refine a_istore_2 rfl rfl rfl ?_
      refine a_iinc_3 rfl rfl (nI_inc _ _) rfl ?_
      refine a_goto rfl rfl ?_
      rw [show nI 0 = 0 from rfl, Int32.or_zero]; exact Z
    | true =>
      refine a_iload_3 rfl rfl ?_
      refine a_bipush (v := (nI 30)) rfl rfl rfl ?_
      refine a_cmpN_ge rfl rfl rfl (by omega) (by omega) (fun c_11 => False.elim (by omega)) (fun _ => ?_)
      refine a_iload_2 rfl rfl ?_
      refine a_aload_0 rfl rfl ?_
      refine a_iload_3 rfl rfl ?_
      refine a_virtI rfl rfl (C) (Nat.le_of_ble_eq_true rfl) ⟨rfl, rfl, rfl, rfl⟩ rfl rfl rfl (Nat.le_of_ble_eq_true rfl) rfl rfl ?_
      refine a_ifb_eq rfl rfl rfl (fun c_20 => by first | exact absurd c_20 (not_not_intro q) | exact absurd (not_not_intro q) c_20) (fun _ => ?_)
      refine a_aload_0 rfl rfl ?_
      refine a_getr rfl rfl rfl (fun _ _ _ => rfl) rfl ?_
      refine a_iload_3 rfl rfl ?_
      refine a_iald rfl rfl (Or.inl rfl) rfl (by omega) (by decide) ?_
      refine a_as (y := nI (f c)) e1 ?_
      refine a_iload_1 rfl rfl ?_
      refine a_cmpN_lt rfl rfl rfl (by omega) (by omega) (fun c_30 => ?_) (fun c_30 => ?_)
      · refine a_iconst (v := (nI 0)) rfl rfl rfl ?_
        refine a_ior rfl rfl ?_
        refine a_istore_2 rfl rfl rfl ?_
        refine a_iinc_3 rfl rfl (nI_inc _ _) rfl ?_
        refine a_goto rfl rfl ?_
        first | (rw [← bs_succT (p := liB A f n) (by omega) (by unfold liB; rw [q]; simp; omega)] at Z; exact Z) | (rw [bs_succF (p := liB A f n) (by unfold liB; rw [q]; simp; omega)] at Z; rw [show nI 0 = 0 from rfl, Int32.or_zero]; exact Z)
      · refine a_iconst (v := (nI 1)) rfl rfl rfl ?_
        refine a_iload_3 rfl rfl ?_
        refine a_ishl rfl rfl ?_
        refine a_goto rfl rfl ?_
        refine a_ior rfl rfl ?_
        refine a_istore_2 rfl rfl rfl ?_
        refine a_iinc_3 rfl rfl (nI_inc _ _) rfl ?_
        refine a_goto rfl rfl ?_
        first | (rw [← bs_succT (p := liB A f n) (by omega) (by unfold liB; rw [q]; simp; omega)] at Z; exact Z) | (rw [bs_succF (p := liB A f n) (by unfold liB; rw [q]; simp; omega)] at Z; rw [show nI 0 = 0 from rfl, Int32.or_zero]; exact Z)
end BR
section W2
variable {A B : Nat → Int32} {TX : Nat → Txt}
/-- the light now -/
def lnA (TX : Nat → Txt) (A : Nat → Int32) : Nat → Nat := ltV (flA TX A 0) A (gN A 8) (szN (gN A 8)) (A 9)
theorem p_brightest (hA : okA A) : ∃ r, opP 1 4 171 [.ref 7] 7 302 [.ref 81] TX A B r A B := by
  refine ⟨(brS (lnA TX A) 30).1, ?_, ?_, hA, rfl⟩
  · intro L t lt rt rp sw h gl R H hR
    obtain ⟨h1, R1, C1, c1, W1, H1, r1, r2⟩ := C_lookNow (L := L) (rt := rt) (rp := rp) (sw := sw) (gl := gl) H hR
    obtain ⟨h2, Z, c2, W2⟩ := l_cbright (L := L) (rt := rt) (rp := rp) (sw := sw) (gl := gl) 30 0 mvU h1 rfl W1
    refine ⟨h2, rlO A, R1, sw, ?_, CF_trans (CF_cl rfl c1) (CF_cl rfl c2), CI_law H1 rfl rfl rfl c2 (LW_LI H1 W2), r1, r2⟩
    show avA _ 171 0 [.ref 7, mvU, mvU, mvU, mvU] [] _ _
    refine a_aload_0 rfl rfl ?_
    refine a_virt0 rfl rfl (C1) (Nat.le_of_ble_eq_true rfl) ⟨rfl, rfl, rfl, rfl⟩ rfl rfl rfl (Nat.le_of_ble_eq_true rfl) rfl rfl ?_
    refine a_iconst (v := (-1)) rfl rfl rfl ?_
    refine a_istore_1 rfl rfl rfl ?_
    refine a_iconst (v := (nI 0)) rfl rfl rfl ?_
    refine a_istore_2 rfl rfl rfl ?_
    refine a_iconst (v := (nI 0)) rfl rfl rfl ?_
    refine a_istore_3 rfl rfl rfl ?_
    exact Z
  · intro L t lt rt rp sw h gl ok H
    obtain ⟨h', gl', C, c, k1, k2, H'⟩ := RI_lay (L := L) (t := t) (lt := lt) (rt := rt) (rp := rp) (sw := sw) (gl := gl) ok H
    refine ⟨h', gl', ?_, CF_rf rfl c, fun j hj => by rw [c 81 rfl], H'⟩
    show avA _ 302 0 [.ref 81, mvU, mvU, mvU] [] _ _
    refine a_aload_0 rfl rfl ?_
    refine a_virt0 rfl rfl (C) (Nat.le_of_ble_eq_true rfl) ⟨rfl, rfl, rfl, rfl⟩ rfl rfl rfl (Nat.le_of_ble_eq_true rfl) rfl rfl ?_
    refine a_iconst (v := (-1)) rfl rfl rfl ?_
    refine a_istore_1 rfl rfl rfl ?_
    refine a_iconst (v := (nI 0)) rfl rfl rfl ?_
    refine a_istore_2 rfl rfl rfl ?_
    refine a_iconst (v := (nI 0)) rfl rfl rfl ?_
    refine a_istore_3 rfl rfl rfl ?_
    exact l_rbright (lnA TX A) (fun k hk => ⟨k1 k hk, ltV_le _ _ _ _ _ _⟩) 30 0 rfl
theorem R_litBy (n : Nat) (hn : n ≤ 15) {L t : Nat} {lt rt rp : Option Nat} {sw : Bool} {h : Nat → Nat → Int32} {gl : Nat → Nat → Int64} (ok : okA A) (H : RI A B TX h) : ∃ h' gl', avE 7 301 [.ref 81, .int (nI n)] (sX L t lt rt rp sw h gl) (some (.int (bsI 30 (liB A (lnA TX A) n))), sX L t lt rt rp sw h' gl') ∧ CF [87, 88, 90, 91] h h' ∧ RI A B TX h' := by
  obtain ⟨h', gl', C, c, k1, k2, H'⟩ := RI_lay (L := L) (t := t) (lt := lt) (rt := rt) (rp := rp) (sw := sw) (gl := gl) ok H
  refine ⟨h', gl', ?_, c, H'⟩
  show avA _ 301 0 [.ref 81, .int (nI (n)), mvU, mvU] [] _ _
  refine a_aload_0 rfl rfl ?_
  refine a_virt0 rfl rfl (C) (Nat.le_of_ble_eq_true rfl) ⟨rfl, rfl, rfl, rfl⟩ rfl rfl rfl (Nat.le_of_ble_eq_true rfl) rfl rfl ?_
  refine a_iconst (v := (nI 0)) rfl rfl rfl ?_
  refine a_istore_2 rfl rfl rfl ?_
  refine a_iconst (v := (nI 0)) rfl rfl rfl ?_
  refine a_istore_3 rfl rfl rfl ?_
  exact l_rlit H'.1 (lnA TX A) (fun k hk => ⟨k1 k hk, ltV_le _ _ _ _ _ _⟩) n hn 30 0 rfl
theorem p_lit (hA : okA A) (v : Int32) : ∃ r, opP 1 4 143 [.ref 7, .int v] 8 300 [.ref 81, .int v] TX A B r A B := by
  by_cases hv : 0 ≤ v.toInt ∧ v.toInt ≤ 15
  · obtain ⟨n, hn, rfl, _⟩ := cell_of (x := v) (m := 16) hv.1 (by omega)
    refine ⟨bsI 30 (liB A (lnA TX A) n), ?_, ?_, hA, rfl⟩
    · intro L t lt rt rp sw h gl R H hR
      obtain ⟨h1, R1, C1, c1, W1, H1, r1, r2⟩ := C_lookNow (L := L) (rt := rt) (rp := rp) (sw := sw) (gl := gl) H hR
      obtain ⟨h2, C2, c2, W2⟩ := e_litCells (L := L) (rt := rt) (rp := rp) (sw := sw) (gl := gl) n (by omega) W1
      refine ⟨h2, rlO A, R1, sw, ?_, CF_trans (CF_cl rfl c1) (CF_cl rfl c2), CI_law H1 rfl rfl rfl c2 (LW_LI H1 W2), r1, r2⟩
      show avA _ 143 0 [.ref 7, .int (nI (n))] [] _ _
      refine a_iload_1 rfl rfl ?_
      refine a_bipush (v := (nI 15)) rfl rfl rfl ?_
      refine a_statI rfl rfl (e_isWithin (nI n) 15 (by omega)) (Nat.le_of_ble_eq_true rfl) ⟨rfl, rfl, rfl⟩ rfl rfl rfl (Nat.le_of_ble_eq_true rfl) rfl ?_
      refine a_ifb_ne rfl rfl rfl (fun _ => ?_) (fun c_6 => by first | exact absurd hv c_6 | exact absurd c_6 hv)
      refine a_aload_0 rfl rfl ?_
      refine a_virt0 rfl rfl (C1) (Nat.le_of_ble_eq_true rfl) ⟨rfl, rfl, rfl, rfl⟩ rfl rfl rfl (Nat.le_of_ble_eq_true rfl) rfl rfl ?_
      refine a_aload_0 rfl rfl ?_
      refine a_getr rfl rfl rfl (fun _ _ _ => rfl) rfl ?_
      refine a_iload_1 rfl rfl ?_
      refine a_virtI rfl rfl (C2) (Nat.le_of_ble_eq_true rfl) ⟨rfl, rfl, rfl, rfl⟩ rfl rfl rfl (Nat.le_of_ble_eq_true rfl) rfl rfl ?_
      exact a_iret rfl rfl
    · intro L t lt rt rp sw h gl ok H
      obtain ⟨h', gl', C, c, H'⟩ := R_litBy (L := L) (t := t) (lt := lt) (rt := rt) (rp := rp) (sw := sw) (gl := gl) n (by omega) ok H
      refine ⟨h', gl', ?_, CF_rf rfl c, fun j hj => by rw [c 81 rfl], H'⟩
      show avA _ 300 0 [.ref 81, .int (nI (n))] [] _ _
      refine a_iload_1 rfl rfl ?_
      refine a_iconst (v := (nI 0)) rfl rfl rfl ?_
      refine a_bipush (v := (nI 15)) rfl rfl rfl ?_
      refine a_statI rfl rfl (r_isIn0 (nI n) 0 15 (by omega) (by omega)) (Nat.le_of_ble_eq_true rfl) ⟨rfl, rfl, rfl⟩ rfl rfl rfl (Nat.le_of_ble_eq_true rfl) rfl ?_
      refine a_ifb_eq rfl rfl rfl (fun c_7 => by first | exact absurd c_7 (not_not_intro hv) | exact absurd (not_not_intro hv) c_7) (fun _ => ?_)
      refine a_aload_0 rfl rfl ?_
      refine a_iload_1 rfl rfl ?_
      refine a_virtI rfl rfl (C) (Nat.le_of_ble_eq_true rfl) ⟨rfl, rfl, rfl, rfl⟩ rfl rfl rfl (Nat.le_of_ble_eq_true rfl) rfl rfl ?_
      refine a_goto rfl rfl ?_
      exact a_iret rfl rfl
  · refine ⟨-1, ?_, ?_, hA, rfl⟩
    · intro L t lt rt rp sw h gl R H hR
      refine ⟨h, lt, R, sw, ?_, CF_refl, H, by omega, by omega⟩
      show avA _ 143 0 [.ref 7, .int (v)] [] _ _
      refine a_iload_1 rfl rfl ?_
      refine a_bipush (v := (nI 15)) rfl rfl rfl ?_
      refine a_statI rfl rfl (e_isWithin v 15 (by omega)) (Nat.le_of_ble_eq_true rfl) ⟨rfl, rfl, rfl⟩ rfl rfl rfl (Nat.le_of_ble_eq_true rfl) rfl ?_
      refine a_ifb_ne rfl rfl rfl (fun c_6 => by first | exact absurd c_6 hv | exact absurd hv c_6) (fun _ => ?_)
      refine a_iconst (v := (-1)) rfl rfl rfl ?_
      exact a_iret rfl rfl
    · intro L t lt rt rp sw h gl ok H
      refine ⟨h, gl, ?_, CF_refl, fun _ _ => rfl, H⟩
      show avA _ 300 0 [.ref 81, .int (v)] [] _ _
      refine a_iload_1 rfl rfl ?_
      refine a_iconst (v := (nI 0)) rfl rfl rfl ?_
      refine a_bipush (v := (nI 15)) rfl rfl rfl ?_
      refine a_statI rfl rfl (r_isIn0 v 0 15 (by omega) (by omega)) (Nat.le_of_ble_eq_true rfl) ⟨rfl, rfl, rfl⟩ rfl rfl rfl (Nat.le_of_ble_eq_true rfl) rfl ?_
      refine a_ifb_eq rfl rfl rfl (fun _ => ?_) (fun c_7 => by first | exact absurd hv c_7 | exact absurd c_7 hv)
      refine a_iconst (v := (-1)) rfl rfl rfl ?_
      exact a_iret rfl rfl
end W2
