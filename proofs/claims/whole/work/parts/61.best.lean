/-! THE BEST PLACE; WHOSE LAW IT WAS -/
/-- are all told cells as light as told? -/
def prS (f : Nat → Nat) (A : Nat → Int32) (x : Nat) : Nat → Bool
  | 0 => true
  | i + 1 => prS f A x i && decide (f (gN A (x + 2 * i)) = gN A (x + 2 * i + 1))
theorem prS_F {f : Nat → Nat} {A : Nat → Int32} {x i n : Nat} (h : prS f A x i = false) (hn : i ≤ n) : prS f A x n = false := by
  obtain ⟨k, rfl⟩ := Nat.exists_eq_add_of_le hn
  induction k with
  | zero => exact h
  | succ k ih => rw [← Nat.add_assoc, prS, ih (by omega)]; rfl
def wkS (f : Nat → Nat) (A : Nat → Int32) : Nat → Bool
  | 0 => true
  | i + 1 => wkS f A i && decide (gN A (98 + 2 * i + 1) ≤ f (gN A (98 + 2 * i)))
theorem wkS_F {f : Nat → Nat} {A : Nat → Int32} {i n : Nat} (h : wkS f A i = false) (hn : i ≤ n) : wkS f A n = false := by
  obtain ⟨k, rfl⟩ := Nat.exists_eq_add_of_le hn
  induction k with
  | zero => exact h
  | succ k ih => rw [← Nat.add_assoc, wkS, ih (by omega)]; rfl
def dkS (f : Nat → Nat) (A : Nat → Int32) : Nat → Bool
  | 0 => true
  | i + 1 => dkS f A i && decide (f (gN A (110 + 2 * i)) ≤ gN A (110 + 2 * i + 1))
theorem dkS_F {f : Nat → Nat} {A : Nat → Int32} {i n : Nat} (h : dkS f A i = false) (hn : i ≤ n) : dkS f A n = false := by
  obtain ⟨k, rfl⟩ := Nat.exists_eq_add_of_le hn
  induction k with
  | zero => exact h
  | succ k ih => rw [← Nat.add_assoc, dkS, ih (by omega)]; rfl
def gdS (f : Nat → Nat) (A : Nat → Int32) : Bool := wkS f A (gN A 4) && dkS f A (gN A 5)
def smS (f : Nat → Nat) : Nat → Nat
  | 0 => 0
  | c + 1 => smS f c + f c
theorem smS_le (f : Nat → Nat) (hf : ∀ c, f c ≤ 15) (n : Nat) : smS f n ≤ 15 * n := by
  induction n with
  | zero => exact Nat.le_refl _
  | succ n ih => rw [smS]; have := hf n; omega
/-- best among the first cells -/
def bsS (A : Nat → Int32) (f : Nat → Nat → Nat) : Nat → Int32 × Int
  | 0 => (-1, -1)
  | c + 1 => if frA A c = true ∧ gdS (f c) A = true ∧ (bsS A f c).2 < ((smS (f c) 30 : Nat) : Int) then (nI c, ((smS (f c) 30 : Nat) : Int)) else bsS A f c
theorem bsS_B (A : Nat → Int32) (f : Nat → Nat → Nat) (hf : ∀ c k, f c k ≤ 15) (n : Nat) : -1 ≤ (bsS A f n).2 ∧ (bsS A f n).2 ≤ 450 := by
  induction n with
  | zero => show (-1 : Int) ≤ -1 ∧ (-1 : Int) ≤ 450; omega
  | succ n ih =>
    rw [bsS]
    split
    · have := smS_le (f n) (hf n) 30
      show -1 ≤ ((smS (f n) 30 : Nat) : Int) ∧ ((smS (f n) 30 : Nat) : Int) ≤ 450
      omega
    · exact ih
theorem pr_v {A : Nat → Int32} (ok : okA A) (x i : Nat) (h : (98 ≤ x ∧ x + 2 * i + 1 < 138) ∨ (150 ≤ x ∧ x + 2 * i + 1 < 166)) (he : x % 2 = 0) : (A (x + 2 * i) = nI (gN A (x + 2 * i)) ∧ gN A (x + 2 * i) < 30) ∧ A (x + 2 * i + 1) = nI (gN A (x + 2 * i + 1)) ∧ gN A (x + 2 * i + 1) ≤ 15 := by
  have b1 : bnd (x + 2 * i) = (0, 29) := bd_pair (m := 0) (by omega) he
  have b2 : bnd (x + 2 * i + 1) = (0, 15) := bd_pair1 (m := 0) h he
  have g1 := gN_le (m := 29) ok.1 (i := x + 2 * i) (by omega) (by rw [b1]; decide)
  exact ⟨⟨gN_eq ok.1 (by omega) (by rw [b1]; decide), by omega⟩, gN_eq ok.1 (by omega) (by rw [b2]; decide), gN_le (m := 15) ok.1 (by omega) (by rw [b2]; decide)⟩
section BE
variable {L t : Nat} {lt rt rp : Option Nat} {sw : Bool} {gl : Nat → Nat → Int64} {A B : Nat → Int32} {TX : Nat → Txt} {R : Nat} {fl : Nat → Option (E1 → Int)} {mo : Int32} {ho sz : Nat}
theorem l_allAre_26 (ok : okA A) (m : Nat) : ∀ (i : Nat) (h : Nat → Nat → Int32), i + m = gN A 6 → h 26 2 = nI (gN A 6) → (∀ i, i < gN A 6 → h 27 i = A (122 + 2 * i) ∧ h 28 i = A (122 + 2 * i + 1)) → LW fl A h t lt mo R ho sz → prS (ltV (fl 0) A ho sz mo) A 122 i = true → ∃ h', avA 3 148 2 [.ref 8, .ref 26, .int (nI i)] [] (sX L t lt rt rp sw h gl) (some (.int (bB (prS (ltV (fl 0) A ho sz mo) A 122 (gN A 6)))), sX L t lt rt rp sw h' gl) ∧ CF [34, 35, 39] h h' ∧ LW fl A h' t lt mo R ho sz := by
  have l8 := gN_le (m := 8) ok.1 (i := 6) (by omega) (by decide)
  induction m with
  | zero =>
    intro i h hi h2 hp W hq
    have e : i = gN A 6 := by omega
    subst e
    refine ⟨h, ?_, CF_refl, W⟩
    rw [hq]
    refine a_iload_2 rfl rfl ?_
    refine a_aload_1 rfl rfl ?_
    refine a_geti rfl rfl rfl (fun _ _ _ => rfl) ?_
    refine a_as (y := nI (gN A 6)) h2 ?_
    refine a_cmpN_ge rfl rfl rfl (by omega) (by omega) (fun _ => ?_) (fun c_7 => False.elim (by omega))
    refine a_iconst (v := (nI 1)) rfl rfl rfl ?_
    exact a_zret rfl rfl (Or.inr rfl)
  | succ m ih =>
    intro i h hi h2 hp W hq
    obtain ⟨⟨v1, v2⟩, v3, v4⟩ := pr_v ok 122 i (by omega) (by omega)
    obtain ⟨z1, z2⟩ := hp i (by omega)
    obtain ⟨h1, C, c1, W1⟩ := e_lightL (L := L) (rt := rt) (rp := rp) (sw := sw) (gl := gl) W (nI (gN A (122 + 2 * i)))
    rw [ltC_N _ _ _ _ _ v2] at C
    have l1 := ltV_le (fl 0) A ho sz mo (gN A (122 + 2 * i))
    have z2' : h1 28 i = nI (gN A (122 + 2 * i + 1)) := by rw [c1 28 rfl]; exact z2.trans v3
    by_cases w : ltV (fl 0) A ho sz mo (gN A (122 + 2 * i)) = gN A (122 + 2 * i + 1)
    · obtain ⟨h', Z, c2, W2⟩ := ih (i + 1) h1 (by omega) (by rw [c1 26 rfl]; exact h2) (by rw [c1 27 rfl, c1 28 rfl]; exact hp) W1 (by rw [prS, hq]; simp [w])
      refine ⟨h', ?_, CF_trans c1 c2, W2⟩
      refine a_iload_2 rfl rfl ?_
      refine a_aload_1 rfl rfl ?_
      refine a_geti rfl rfl rfl (fun _ _ _ => rfl) ?_
      refine a_as (y := nI (gN A 6)) h2 ?_
      refine a_cmpN_ge rfl rfl rfl (by omega) (by omega) (fun c_7 => False.elim (by omega)) (fun _ => ?_)
      refine a_aload_0 rfl rfl ?_
      refine a_aload_1 rfl rfl ?_
      refine a_getr rfl rfl rfl (fun _ _ _ => rfl) rfl ?_
      refine a_iload_2 rfl rfl ?_
      refine a_iald rfl rfl (Or.inl rfl) rfl (by omega) (by decide) ?_
      refine a_as (y := nI (gN A (122 + 2 * i))) (z1.trans v1) ?_
      refine a_virtI rfl rfl (C) (Nat.le_of_ble_eq_true rfl) ⟨rfl, rfl, rfl, rfl⟩ rfl rfl rfl (Nat.le_of_ble_eq_true rfl) rfl rfl ?_
      refine a_aload_1 rfl rfl ?_
      refine a_getr rfl rfl rfl (fun _ _ _ => rfl) rfl ?_
      refine a_iload_2 rfl rfl ?_
      refine a_iald rfl rfl (Or.inl rfl) rfl (by omega) (by decide) ?_
      refine a_as (y := nI (gN A (122 + 2 * i + 1))) z2' ?_
      refine a_cmpN_eq rfl rfl rfl (by omega) (by omega) (fun _ => ?_) (fun c_26 => False.elim (by omega))
      refine a_iinc_2 rfl rfl (nI_inc _ _) rfl ?_
      refine a_goto rfl rfl ?_
      exact Z
    · have a1 : prS (ltV (fl 0) A ho sz mo) A 122 (i + 1) = false := by rw [prS, hq]; simp [w]
      refine ⟨h1, ?_, c1, W1⟩
      rw [prS_F a1 (by omega)]
      refine a_iload_2 rfl rfl ?_
      refine a_aload_1 rfl rfl ?_
      refine a_geti rfl rfl rfl (fun _ _ _ => rfl) ?_
      refine a_as (y := nI (gN A 6)) h2 ?_
      refine a_cmpN_ge rfl rfl rfl (by omega) (by omega) (fun c_7 => False.elim (by omega)) (fun _ => ?_)
      refine a_aload_0 rfl rfl ?_
      refine a_aload_1 rfl rfl ?_
      refine a_getr rfl rfl rfl (fun _ _ _ => rfl) rfl ?_
      refine a_iload_2 rfl rfl ?_
      refine a_iald rfl rfl (Or.inl rfl) rfl (by omega) (by decide) ?_
      refine a_as (y := nI (gN A (122 + 2 * i))) (z1.trans v1) ?_
      refine a_virtI rfl rfl (C) (Nat.le_of_ble_eq_true rfl) ⟨rfl, rfl, rfl, rfl⟩ rfl rfl rfl (Nat.le_of_ble_eq_true rfl) rfl rfl ?_
      refine a_aload_1 rfl rfl ?_
      refine a_getr rfl rfl rfl (fun _ _ _ => rfl) rfl ?_
      refine a_iload_2 rfl rfl ?_
      refine a_iald rfl rfl (Or.inl rfl) rfl (by omega) (by decide) ?_
      refine a_as (y := nI (gN A (122 + 2 * i + 1))) z2' ?_
      refine a_cmpN_eq rfl rfl rfl (by omega) (by omega) (fun c_26 => False.elim (by omega)) (fun _ => ?_)
      refine a_iconst (v := (nI 0)) rfl rfl rfl ?_
      exact a_zret rfl rfl (Or.inl rfl)
theorem e_allAre_26 {h : Nat → Nat → Int32} (H : CI A B TX R t lt h) (W : LW fl A h t lt mo R ho sz) : ∃ h', avE 3 148 [.ref 8, .ref 26] (sX L t lt rt rp sw h gl) (some (.int (bB (prS (ltV (fl 0) A ho sz mo) A 122 (gN A 6)))), sX L t lt rt rp sw h' gl) ∧ CF [34, 35, 39] h h' ∧ LW fl A h' t lt mo R ho sz := by
  have pa : PA 26 A 122 6 h := H.2.2.2.1.2.2.2.2.1.2.2.1
  obtain ⟨h', Z, c, W'⟩ := l_allAre_26 (L := L) (rt := rt) (rp := rp) (sw := sw) (gl := gl) H.1 (gN A 6) 0 h (by omega) (pa.1.trans (gN_eq H.1.1 (by omega) (by decide))) pa.2 W rfl
  refine ⟨h', ?_, c, W'⟩
  show avA _ 148 0 [.ref 8, .ref 26, mvU] [] _ _
  refine a_iconst (v := (nI 0)) rfl rfl rfl ?_
  refine a_istore_2 rfl rfl rfl ?_
  exact Z
theorem l_allAre_29 (ok : okA A) (m : Nat) : ∀ (i : Nat) (h : Nat → Nat → Int32), i + m = gN A 7 → h 29 2 = nI (gN A 7) → (∀ i, i < gN A 7 → h 30 i = A (150 + 2 * i) ∧ h 31 i = A (150 + 2 * i + 1)) → LW fl A h t lt mo R ho sz → prS (ltV (fl 0) A ho sz mo) A 150 i = true → ∃ h', avA 3 148 2 [.ref 8, .ref 29, .int (nI i)] [] (sX L t lt rt rp sw h gl) (some (.int (bB (prS (ltV (fl 0) A ho sz mo) A 150 (gN A 7)))), sX L t lt rt rp sw h' gl) ∧ CF [34, 35, 39] h h' ∧ LW fl A h' t lt mo R ho sz := by
  have l8 := gN_le (m := 8) ok.1 (i := 7) (by omega) (by decide)
  induction m with
  | zero =>
    intro i h hi h2 hp W hq
    have e : i = gN A 7 := by omega
    subst e
    refine ⟨h, ?_, CF_refl, W⟩
    rw [hq]
    refine a_iload_2 rfl rfl ?_
    refine a_aload_1 rfl rfl ?_
    refine a_geti rfl rfl rfl (fun _ _ _ => rfl) ?_
    refine a_as (y := nI (gN A 7)) h2 ?_
    refine a_cmpN_ge rfl rfl rfl (by omega) (by omega) (fun _ => ?_) (fun c_7 => False.elim (by omega))
    refine a_iconst (v := (nI 1)) rfl rfl rfl ?_
    exact a_zret rfl rfl (Or.inr rfl)
  | succ m ih =>
    intro i h hi h2 hp W hq
    obtain ⟨⟨v1, v2⟩, v3, v4⟩ := pr_v ok 150 i (by omega) (by omega)
    obtain ⟨z1, z2⟩ := hp i (by omega)
    obtain ⟨h1, C, c1, W1⟩ := e_lightL (L := L) (rt := rt) (rp := rp) (sw := sw) (gl := gl) W (nI (gN A (150 + 2 * i)))
    rw [ltC_N _ _ _ _ _ v2] at C
    have l1 := ltV_le (fl 0) A ho sz mo (gN A (150 + 2 * i))
    have z2' : h1 31 i = nI (gN A (150 + 2 * i + 1)) := by rw [c1 31 rfl]; exact z2.trans v3
    by_cases w : ltV (fl 0) A ho sz mo (gN A (150 + 2 * i)) = gN A (150 + 2 * i + 1)
    · obtain ⟨h', Z, c2, W2⟩ := ih (i + 1) h1 (by omega) (by rw [c1 29 rfl]; exact h2) (by rw [c1 30 rfl, c1 31 rfl]; exact hp) W1 (by rw [prS, hq]; simp [w])
      refine ⟨h', ?_, CF_trans c1 c2, W2⟩
      refine a_iload_2 rfl rfl ?_
      refine a_aload_1 rfl rfl ?_
      refine a_geti rfl rfl rfl (fun _ _ _ => rfl) ?_
      refine a_as (y := nI (gN A 7)) h2 ?_
      refine a_cmpN_ge rfl rfl rfl (by omega) (by omega) (fun c_7 => False.elim (by omega)) (fun _ => ?_)
      refine a_aload_0 rfl rfl ?_
      refine a_aload_1 rfl rfl ?_
      refine a_getr rfl rfl rfl (fun _ _ _ => rfl) rfl ?_
      refine a_iload_2 rfl rfl ?_
      refine a_iald rfl rfl (Or.inl rfl) rfl (by omega) (by decide) ?_
      refine a_as (y := nI (gN A (150 + 2 * i))) (z1.trans v1) ?_
      refine a_virtI rfl rfl (C) (Nat.le_of_ble_eq_true rfl) ⟨rfl, rfl, rfl, rfl⟩ rfl rfl rfl (Nat.le_of_ble_eq_true rfl) rfl rfl ?_
      refine a_aload_1 rfl rfl ?_
      refine a_getr rfl rfl rfl (fun _ _ _ => rfl) rfl ?_
      refine a_iload_2 rfl rfl ?_
      refine a_iald rfl rfl (Or.inl rfl) rfl (by omega) (by decide) ?_
      refine a_as (y := nI (gN A (150 + 2 * i + 1))) z2' ?_
      refine a_cmpN_eq rfl rfl rfl (by omega) (by omega) (fun _ => ?_) (fun c_26 => False.elim (by omega))
      refine a_iinc_2 rfl rfl (nI_inc _ _) rfl ?_
      refine a_goto rfl rfl ?_
      exact Z
    · have a1 : prS (ltV (fl 0) A ho sz mo) A 150 (i + 1) = false := by rw [prS, hq]; simp [w]
      refine ⟨h1, ?_, c1, W1⟩
      rw [prS_F a1 (by omega)]
      refine a_iload_2 rfl rfl ?_
      refine a_aload_1 rfl rfl ?_
      refine a_geti rfl rfl rfl (fun _ _ _ => rfl) ?_
      refine a_as (y := nI (gN A 7)) h2 ?_
      refine a_cmpN_ge rfl rfl rfl (by omega) (by omega) (fun c_7 => False.elim (by omega)) (fun _ => ?_)
      refine a_aload_0 rfl rfl ?_
      refine a_aload_1 rfl rfl ?_
      refine a_getr rfl rfl rfl (fun _ _ _ => rfl) rfl ?_
      refine a_iload_2 rfl rfl ?_
      refine a_iald rfl rfl (Or.inl rfl) rfl (by omega) (by decide) ?_
      refine a_as (y := nI (gN A (150 + 2 * i))) (z1.trans v1) ?_
      refine a_virtI rfl rfl (C) (Nat.le_of_ble_eq_true rfl) ⟨rfl, rfl, rfl, rfl⟩ rfl rfl rfl (Nat.le_of_ble_eq_true rfl) rfl rfl ?_
      refine a_aload_1 rfl rfl ?_
      refine a_getr rfl rfl rfl (fun _ _ _ => rfl) rfl ?_
      refine a_iload_2 rfl rfl ?_
      refine a_iald rfl rfl (Or.inl rfl) rfl (by omega) (by decide) ?_
      refine a_as (y := nI (gN A (150 + 2 * i + 1))) z2' ?_
      refine a_cmpN_eq rfl rfl rfl (by omega) (by omega) (fun c_26 => False.elim (by omega)) (fun _ => ?_)
      refine a_iconst (v := (nI 0)) rfl rfl rfl ?_
      exact a_zret rfl rfl (Or.inl rfl)
theorem e_allAre_29 {h : Nat → Nat → Int32} (H : CI A B TX R t lt h) (W : LW fl A h t lt mo R ho sz) : ∃ h', avE 3 148 [.ref 8, .ref 29] (sX L t lt rt rp sw h gl) (some (.int (bB (prS (ltV (fl 0) A ho sz mo) A 150 (gN A 7)))), sX L t lt rt rp sw h' gl) ∧ CF [34, 35, 39] h h' ∧ LW fl A h' t lt mo R ho sz := by
  have pa : PA 29 A 150 7 h := H.2.2.2.1.2.2.2.2.1.2.2.2
  obtain ⟨h', Z, c, W'⟩ := l_allAre_29 (L := L) (rt := rt) (rp := rp) (sw := sw) (gl := gl) H.1 (gN A 7) 0 h (by omega) (pa.1.trans (gN_eq H.1.1 (by omega) (by decide))) pa.2 W rfl
  refine ⟨h', ?_, c, W'⟩
  show avA _ 148 0 [.ref 8, .ref 29, mvU] [] _ _
  refine a_iconst (v := (nI 0)) rfl rfl rfl ?_
  refine a_istore_2 rfl rfl rfl ?_
  exact Z
theorem l_serve2 (ok : okA A) (m : Nat) : ∀ (i : Nat) (h : Nat → Nat → Int32), i + m = gN A 5 → h 23 2 = nI (gN A 5) → (∀ i, i < gN A 5 → h 24 i = A (110 + 2 * i) ∧ h 25 i = A (110 + 2 * i + 1)) → LW fl A h t lt mo R ho sz → dkS (ltV (fl 0) A ho sz mo) A i = true → ∃ h', avA 3 141 60 [.ref 7, .int (nI i)] [] (sX L t lt rt rp sw h gl) (some (.int (bB (dkS (ltV (fl 0) A ho sz mo) A (gN A 5)))), sX L t lt rt rp sw h' gl) ∧ CF [34, 35, 39] h h' ∧ LW fl A h' t lt mo R ho sz := by
  have l8 := gN_le (m := 6) ok.1 (i := 5) (by omega) (by decide)
  induction m with
  | zero =>
    intro i h hi h2 hp W hq
    have e : i = gN A 5 := by omega
    subst e
    refine ⟨h, ?_, CF_refl, W⟩
    rw [hq]
    refine a_iload_1 rfl rfl ?_
    refine a_aload_0 rfl rfl ?_
    refine a_getr rfl rfl rfl (fun _ _ _ => rfl) rfl ?_
    refine a_getr rfl rfl rfl (fun _ _ _ => rfl) rfl ?_
    refine a_geti rfl rfl rfl (fun _ _ _ => rfl) ?_
    refine a_as (y := nI (gN A 5)) h2 ?_
    refine a_cmpN_ge rfl rfl rfl (by omega) (by omega) (fun _ => ?_) (fun c_71 => False.elim (by omega))
    refine a_iconst (v := (nI 1)) rfl rfl rfl ?_
    exact a_zret rfl rfl (Or.inr rfl)
  | succ m ih =>
    intro i h hi h2 hp W hq
    obtain ⟨⟨v1, v2⟩, v3, v4⟩ := pr_v ok 110 i (by omega) (by omega)
    obtain ⟨z1, z2⟩ := hp i (by omega)
    obtain ⟨h1, C, c1, W1⟩ := e_lightL (L := L) (rt := rt) (rp := rp) (sw := sw) (gl := gl) W (nI (gN A (110 + 2 * i)))
    rw [ltC_N _ _ _ _ _ v2] at C
    have l1 := ltV_le (fl 0) A ho sz mo (gN A (110 + 2 * i))
    have z2' : h1 25 i = nI (gN A (110 + 2 * i + 1)) := by rw [c1 25 rfl]; exact z2.trans v3
    by_cases w : ltV (fl 0) A ho sz mo (gN A (110 + 2 * i)) ≤ gN A (110 + 2 * i + 1)
    · obtain ⟨h', Z, c2, W2⟩ := ih (i + 1) h1 (by omega) (by rw [c1 23 rfl]; exact h2) (by rw [c1 24 rfl, c1 25 rfl]; exact hp) W1 (by rw [dkS, hq]; simp [w])
      refine ⟨h', ?_, CF_trans c1 c2, W2⟩
      refine a_iload_1 rfl rfl ?_
      refine a_aload_0 rfl rfl ?_
      refine a_getr rfl rfl rfl (fun _ _ _ => rfl) rfl ?_
      refine a_getr rfl rfl rfl (fun _ _ _ => rfl) rfl ?_
      refine a_geti rfl rfl rfl (fun _ _ _ => rfl) ?_
      refine a_as (y := nI (gN A 5)) h2 ?_
      refine a_cmpN_ge rfl rfl rfl (by omega) (by omega) (fun c_71 => False.elim (by omega)) (fun _ => ?_)
      refine a_aload_0 rfl rfl ?_
      refine a_getr rfl rfl rfl (fun _ _ _ => rfl) rfl ?_
      refine a_aload_0 rfl rfl ?_
      refine a_getr rfl rfl rfl (fun _ _ _ => rfl) rfl ?_
      refine a_getr rfl rfl rfl (fun _ _ _ => rfl) rfl ?_
      refine a_getr rfl rfl rfl (fun _ _ _ => rfl) rfl ?_
      refine a_iload_1 rfl rfl ?_
      refine a_iald rfl rfl (Or.inl rfl) rfl (by omega) (by decide) ?_
      refine a_as (y := nI (gN A (110 + 2 * i))) (z1.trans v1) ?_
      refine a_virtI rfl rfl (C) (Nat.le_of_ble_eq_true rfl) ⟨rfl, rfl, rfl, rfl⟩ rfl rfl rfl (Nat.le_of_ble_eq_true rfl) rfl rfl ?_
      refine a_aload_0 rfl rfl ?_
      refine a_getr rfl rfl rfl (fun _ _ _ => rfl) rfl ?_
      refine a_getr rfl rfl rfl (fun _ _ _ => rfl) rfl ?_
      refine a_getr rfl rfl rfl (fun _ _ _ => rfl) rfl ?_
      refine a_iload_1 rfl rfl ?_
      refine a_iald rfl rfl (Or.inl rfl) rfl (by omega) (by decide) ?_
      refine a_as (y := nI (gN A (110 + 2 * i + 1))) z2' ?_
      refine a_cmpN_le rfl rfl rfl (by omega) (by omega) (fun _ => ?_) (fun c_105 => False.elim (by omega))
      refine a_iinc_1 rfl rfl (nI_inc _ _) rfl ?_
      refine a_goto rfl rfl ?_
      exact Z
    · have a1 : dkS (ltV (fl 0) A ho sz mo) A (i + 1) = false := by rw [dkS, hq]; simp; omega
      refine ⟨h1, ?_, c1, W1⟩
      rw [dkS_F a1 (by omega)]
      refine a_iload_1 rfl rfl ?_
      refine a_aload_0 rfl rfl ?_
      refine a_getr rfl rfl rfl (fun _ _ _ => rfl) rfl ?_
      refine a_getr rfl rfl rfl (fun _ _ _ => rfl) rfl ?_
      refine a_geti rfl rfl rfl (fun _ _ _ => rfl) ?_
      refine a_as (y := nI (gN A 5)) h2 ?_
      refine a_cmpN_ge rfl rfl rfl (by omega) (by omega) (fun c_71 => False.elim (by omega)) (fun _ => ?_)
      refine a_aload_0 rfl rfl ?_
      refine a_getr rfl rfl rfl (fun _ _ _ => rfl) rfl ?_
      refine a_aload_0 rfl rfl ?_
      refine a_getr rfl rfl rfl (fun _ _ _ => rfl) rfl ?_
      refine a_getr rfl rfl rfl (fun _ _ _ => rfl) rfl ?_
      refine a_getr rfl rfl rfl (fun _ _ _ => rfl) rfl ?_
      refine a_iload_1 rfl rfl ?_
      refine a_iald rfl rfl (Or.inl rfl) rfl (by omega) (by decide) ?_
      refine a_as (y := nI (gN A (110 + 2 * i))) (z1.trans v1) ?_
      refine a_virtI rfl rfl (C) (Nat.le_of_ble_eq_true rfl) ⟨rfl, rfl, rfl, rfl⟩ rfl rfl rfl (Nat.le_of_ble_eq_true rfl) rfl rfl ?_
      refine a_aload_0 rfl rfl ?_
      refine a_getr rfl rfl rfl (fun _ _ _ => rfl) rfl ?_
      refine a_getr rfl rfl rfl (fun _ _ _ => rfl) rfl ?_
      refine a_getr rfl rfl rfl (fun _ _ _ => rfl) rfl ?_
      refine a_iload_1 rfl rfl ?_
      refine a_iald rfl rfl (Or.inl rfl) rfl (by omega) (by decide) ?_
      refine a_as (y := nI (gN A (110 + 2 * i + 1))) z2' ?_
      refine a_cmpN_le rfl rfl rfl (by omega) (by omega) (fun c_105 => False.elim (by omega)) (fun _ => ?_)
      refine a_iconst (v := (nI 0)) rfl rfl rfl ?_
      exact a_zret rfl rfl (Or.inl rfl)
theorem l_serve1 (ok : okA A) (m : Nat) : ∀ (i : Nat) (h : Nat → Nat → Int32), i + m = gN A 4 → h 20 2 = nI (gN A 4) → (∀ i, i < gN A 4 → h 21 i = A (98 + 2 * i) ∧ h 22 i = A (98 + 2 * i + 1)) → h 23 2 = nI (gN A 5) → (∀ i, i < gN A 5 → h 24 i = A (110 + 2 * i) ∧ h 25 i = A (110 + 2 * i + 1)) → LW fl A h t lt mo R ho sz → wkS (ltV (fl 0) A ho sz mo) A i = true → ∃ h', avA 3 141 2 [.ref 7, .int (nI i)] [] (sX L t lt rt rp sw h gl) (some (.int (bB (gdS (ltV (fl 0) A ho sz mo) A))), sX L t lt rt rp sw h' gl) ∧ CF [34, 35, 39] h h' ∧ LW fl A h' t lt mo R ho sz := by
  have l8 := gN_le (m := 6) ok.1 (i := 4) (by omega) (by decide)
  induction m with
  | zero =>
    intro i h hi h2 hp h3 hp3 W hq
    have e : i = gN A 4 := by omega
    subst e
    obtain ⟨h', Z, c, W'⟩ := l_serve2 (L := L) (rt := rt) (rp := rp) (sw := sw) (gl := gl) ok (gN A 5) 0 h (by omega) h3 hp3 W rfl
    refine ⟨h', ?_, c, W'⟩
    unfold gdS
    rw [hq, Bool.true_and]
    refine a_iload_1 rfl rfl ?_
    refine a_aload_0 rfl rfl ?_
    refine a_getr rfl rfl rfl (fun _ _ _ => rfl) rfl ?_
    refine a_getr rfl rfl rfl (fun _ _ _ => rfl) rfl ?_
    refine a_geti rfl rfl rfl (fun _ _ _ => rfl) ?_
    refine a_as (y := nI (gN A 4)) h2 ?_
    refine a_cmpN_ge rfl rfl rfl (by omega) (by omega) (fun _ => ?_) (fun c_13 => False.elim (by omega))
    refine a_iconst (v := (nI 0)) rfl rfl rfl ?_
    refine a_istore_1 rfl rfl rfl ?_
    exact Z
  | succ m ih =>
    intro i h hi h2 hp h3 hp3 W hq
    obtain ⟨⟨v1, v2⟩, v3, v4⟩ := pr_v ok 98 i (by omega) (by omega)
    obtain ⟨z1, z2⟩ := hp i (by omega)
    obtain ⟨h1, C, c1, W1⟩ := e_lightL (L := L) (rt := rt) (rp := rp) (sw := sw) (gl := gl) W (nI (gN A (98 + 2 * i)))
    rw [ltC_N _ _ _ _ _ v2] at C
    have l1 := ltV_le (fl 0) A ho sz mo (gN A (98 + 2 * i))
    have z2' : h1 22 i = nI (gN A (98 + 2 * i + 1)) := by rw [c1 22 rfl]; exact z2.trans v3
    by_cases w : gN A (98 + 2 * i + 1) ≤ ltV (fl 0) A ho sz mo (gN A (98 + 2 * i))
    · obtain ⟨h', Z, c2, W2⟩ := ih (i + 1) h1 (by omega) (by rw [c1 20 rfl]; exact h2) (by rw [c1 21 rfl, c1 22 rfl]; exact hp) (by rw [c1 23 rfl]; exact h3) (by rw [c1 24 rfl, c1 25 rfl]; exact hp3) W1 (by rw [wkS, hq]; simp [w])
      refine ⟨h', ?_, CF_trans c1 c2, W2⟩
      refine a_iload_1 rfl rfl ?_
      refine a_aload_0 rfl rfl ?_
      refine a_getr rfl rfl rfl (fun _ _ _ => rfl) rfl ?_
      refine a_getr rfl rfl rfl (fun _ _ _ => rfl) rfl ?_
      refine a_geti rfl rfl rfl (fun _ _ _ => rfl) ?_
      refine a_as (y := nI (gN A 4)) h2 ?_
      refine a_cmpN_ge rfl rfl rfl (by omega) (by omega) (fun c_13 => False.elim (by omega)) (fun _ => ?_)
      refine a_aload_0 rfl rfl ?_
      refine a_getr rfl rfl rfl (fun _ _ _ => rfl) rfl ?_
      refine a_aload_0 rfl rfl ?_
      refine a_getr rfl rfl rfl (fun _ _ _ => rfl) rfl ?_
      refine a_getr rfl rfl rfl (fun _ _ _ => rfl) rfl ?_
      refine a_getr rfl rfl rfl (fun _ _ _ => rfl) rfl ?_
      refine a_iload_1 rfl rfl ?_
      refine a_iald rfl rfl (Or.inl rfl) rfl (by omega) (by decide) ?_
      refine a_as (y := nI (gN A (98 + 2 * i))) (z1.trans v1) ?_
      refine a_virtI rfl rfl (C) (Nat.le_of_ble_eq_true rfl) ⟨rfl, rfl, rfl, rfl⟩ rfl rfl rfl (Nat.le_of_ble_eq_true rfl) rfl rfl ?_
      refine a_aload_0 rfl rfl ?_
      refine a_getr rfl rfl rfl (fun _ _ _ => rfl) rfl ?_
      refine a_getr rfl rfl rfl (fun _ _ _ => rfl) rfl ?_
      refine a_getr rfl rfl rfl (fun _ _ _ => rfl) rfl ?_
      refine a_iload_1 rfl rfl ?_
      refine a_iald rfl rfl (Or.inl rfl) rfl (by omega) (by decide) ?_
      refine a_as (y := nI (gN A (98 + 2 * i + 1))) z2' ?_
      refine a_cmpN_ge rfl rfl rfl (by omega) (by omega) (fun _ => ?_) (fun c_47 => False.elim (by omega))
      refine a_iinc_1 rfl rfl (nI_inc _ _) rfl ?_
      refine a_goto rfl rfl ?_
      exact Z
    · have a1 : wkS (ltV (fl 0) A ho sz mo) A (i + 1) = false := by rw [wkS, hq]; simp; omega
      refine ⟨h1, ?_, c1, W1⟩
      unfold gdS
      rw [wkS_F a1 (by omega), Bool.false_and]
      refine a_iload_1 rfl rfl ?_
      refine a_aload_0 rfl rfl ?_
      refine a_getr rfl rfl rfl (fun _ _ _ => rfl) rfl ?_
      refine a_getr rfl rfl rfl (fun _ _ _ => rfl) rfl ?_
      refine a_geti rfl rfl rfl (fun _ _ _ => rfl) ?_
      refine a_as (y := nI (gN A 4)) h2 ?_
      refine a_cmpN_ge rfl rfl rfl (by omega) (by omega) (fun c_13 => False.elim (by omega)) (fun _ => ?_)
      refine a_aload_0 rfl rfl ?_
      refine a_getr rfl rfl rfl (fun _ _ _ => rfl) rfl ?_
      refine a_aload_0 rfl rfl ?_
      refine a_getr rfl rfl rfl (fun _ _ _ => rfl) rfl ?_
      refine a_getr rfl rfl rfl (fun _ _ _ => rfl) rfl ?_
      refine a_getr rfl rfl rfl (fun _ _ _ => rfl) rfl ?_
      refine a_iload_1 rfl rfl ?_
      refine a_iald rfl rfl (Or.inl rfl) rfl (by omega) (by decide) ?_
      refine a_as (y := nI (gN A (98 + 2 * i))) (z1.trans v1) ?_
      refine a_virtI rfl rfl (C) (Nat.le_of_ble_eq_true rfl) ⟨rfl, rfl, rfl, rfl⟩ rfl rfl rfl (Nat.le_of_ble_eq_true rfl) rfl rfl ?_
      refine a_aload_0 rfl rfl ?_
      refine a_getr rfl rfl rfl (fun _ _ _ => rfl) rfl ?_
      refine a_getr rfl rfl rfl (fun _ _ _ => rfl) rfl ?_
      refine a_getr rfl rfl rfl (fun _ _ _ => rfl) rfl ?_
      refine a_iload_1 rfl rfl ?_
      refine a_iald rfl rfl (Or.inl rfl) rfl (by omega) (by decide) ?_
      refine a_as (y := nI (gN A (98 + 2 * i + 1))) z2' ?_
      refine a_cmpN_ge rfl rfl rfl (by omega) (by omega) (fun c_47 => False.elim (by omega)) (fun _ => ?_)
      refine a_iconst (v := (nI 0)) rfl rfl rfl ?_
      exact a_zret rfl rfl (Or.inl rfl)
theorem e_serves {h : Nat → Nat → Int32} (H : CI A B TX R t lt h) (W : LW fl A h t lt mo R ho sz) : ∃ h', avE 3 141 [.ref 7] (sX L t lt rt rp sw h gl) (some (.int (bB (gdS (ltV (fl 0) A ho sz mo) A))), sX L t lt rt rp sw h' gl) ∧ CF [34, 35, 39] h h' ∧ LW fl A h' t lt mo R ho sz := by
  have p1 : PA 20 A 98 4 h := H.2.2.2.1.2.2.2.2.1.1
  have p2 : PA 23 A 110 5 h := H.2.2.2.1.2.2.2.2.1.2.1
  obtain ⟨h', Z, c, W'⟩ := l_serve1 (L := L) (rt := rt) (rp := rp) (sw := sw) (gl := gl) H.1 (gN A 4) 0 h (by omega) (p1.1.trans (gN_eq H.1.1 (by omega) (by decide))) p1.2 (p2.1.trans (gN_eq H.1.1 (by omega) (by decide))) p2.2 W rfl
  refine ⟨h', ?_, c, W'⟩
  show avA _ 141 0 [.ref 7, mvU] [] _ _
  refine a_iconst (v := (nI 0)) rfl rfl rfl ?_
  refine a_istore_1 rfl rfl rfl ?_
  exact Z
theorem l_together (m : Nat) : ∀ (c : Nat) (h : Nat → Nat → Int32), c + m = 30 → LW fl A h t lt mo R ho sz → ∃ h', avA 3 142 4 [.ref 8, .int (nI (smS (ltV (fl 0) A ho sz mo) c)), .int (nI c)] [] (sX L t lt rt rp sw h gl) (some (.int (nI (smS (ltV (fl 0) A ho sz mo) 30))), sX L t lt rt rp sw h' gl) ∧ CF [34, 35, 39] h h' ∧ LW fl A h' t lt mo R ho sz := by
  induction m with
  | zero =>
    intro c h hc W
    have e : c = 30 := by omega
    subst e
    refine ⟨h, ?_, CF_refl, W⟩
    refine a_iload_2 rfl rfl ?_
    refine a_bipush (v := (nI 30)) rfl rfl rfl ?_
    refine a_cmpN_ge rfl rfl rfl (by omega) (by omega) (fun _ => ?_) (fun c_7 => absurd c_7 (by decide))
    refine a_iload_1 rfl rfl ?_
    exact a_iret rfl rfl
  | succ m ih =>
    intro c h hc W
    obtain ⟨h1, C, c1, W1⟩ := e_lightL (L := L) (rt := rt) (rp := rp) (sw := sw) (gl := gl) W (nI c)
    rw [ltC_N _ _ _ _ _ (by omega)] at C
    obtain ⟨h', Z, c2, W2⟩ := ih (c + 1) h1 (by omega) W1
    refine ⟨h', ?_, CF_trans c1 c2, W2⟩
    refine a_iload_2 rfl rfl ?_
    refine a_bipush (v := (nI 30)) rfl rfl rfl ?_
    refine a_cmpN_ge rfl rfl rfl (by omega) (by omega) (fun c_7 => False.elim (by omega)) (fun _ => ?_)
    refine a_iload_1 rfl rfl ?_
    refine a_aload_0 rfl rfl ?_
    refine a_iload_2 rfl rfl ?_
    refine a_virtI rfl rfl (C) (Nat.le_of_ble_eq_true rfl) ⟨rfl, rfl, rfl, rfl⟩ rfl rfl rfl (Nat.le_of_ble_eq_true rfl) rfl rfl ?_
    refine a_iaddN rfl rfl ?_
    refine a_istore_1 rfl rfl rfl ?_
    refine a_iinc_2 rfl rfl (nI_inc _ _) rfl ?_
    refine a_goto rfl rfl ?_
    exact Z
theorem e_together {h : Nat → Nat → Int32} (W : LW fl A h t lt mo R ho sz) : ∃ h', avE 3 142 [.ref 8] (sX L t lt rt rp sw h gl) (some (.int (nI (smS (ltV (fl 0) A ho sz mo) 30))), sX L t lt rt rp sw h' gl) ∧ CF [34, 35, 39] h h' ∧ LW fl A h' t lt mo R ho sz := by
  obtain ⟨h', Z, c, W'⟩ := l_together (L := L) (rt := rt) (rp := rp) (sw := sw) (gl := gl) 30 0 h rfl W
  refine ⟨h', ?_, c, W'⟩
  show avA _ 142 0 [.ref 8, mvU, mvU] [] _ _
  refine a_iconst (v := (nI 0)) rfl rfl rfl ?_
  refine a_istore_1 rfl rfl rfl ?_
  refine a_iconst (v := (nI 0)) rfl rfl rfl ?_
  refine a_istore_2 rfl rfl rfl ?_
  exact Z
end BE
section BC
variable {L t : Nat} {rt rp : Option Nat} {sw : Bool} {gl : Nat → Nat → Int64} {A B : Nat → Int32} {TX : Nat → Txt}
/-- the light of a moon at c -/
def lcA (TX : Nat → Txt) (A : Nat → Int32) (sz : Nat) (c : Nat) : Nat → Nat := ltV (flA TX A 0) A (gN A 8) sz (nI c)
theorem lcA_le (TX : Nat → Txt) (A : Nat → Int32) (sz c k : Nat) : lcA TX A sz c k ≤ 15 := ltV_le _ _ _ _ _ _
theorem l_cbest (y1 : Value) (m : Nat) : ∀ (c R : Nat) (y6 : Value) (lt : Option Nat) (h : Nat → Nat → Int32), c + m = 30 → CI A B TX R t lt h → R + m < 67108864 → ∃ h' lt' R', CF clS h h' ∧ CI A B TX R' t lt' h' ∧ R ≤ R' ∧ R' ≤ R + m ∧ ∀ r : Option Value × mvSt, (∀ y6, avA 4 140 99 [.ref 7, y1, .int (nI (gN A 8)), .int (bsS A (lcA TX A (szN (gN A 8))) 30).1, .int (iI (bsS A (lcA TX A (szN (gN A 8))) 30).2), .int (nI 30), y6] [] (sX L t lt' rt rp sw h' gl) r) → avA 4 140 19 [.ref 7, y1, .int (nI (gN A 8)), .int (bsS A (lcA TX A (szN (gN A 8))) c).1, .int (iI (bsS A (lcA TX A (szN (gN A 8))) c).2), .int (nI c), y6] [] (sX L t lt rt rp sw h gl) r := by
  induction m with
  | zero =>
    intro c R y6 lt h hc H hR
    have e : c = 30 := by omega
    subst e
    refine ⟨h, lt, R, CF_refl, H, by omega, by omega, fun r Z => ?_⟩
    refine a_iload_5 rfl rfl ?_
    refine a_bipush (v := (nI 30)) rfl rfl rfl ?_
    refine a_cmpN_ge rfl rfl rfl (by omega) (by omega) (fun _ => ?_) (fun c_23 => absurd c_23 (by decide))
    exact Z _
  | succ m ih =>
    intro c R y6 lt h hc H hR
    have l8 := gN_le (m := 9999) H.1.1 (i := 8) (by omega) (by decide)
    have zz := szN_le (gN A 8)
    have etb : tb (bsI 30 (frA A)) c = frA A c := by rw [tb_bs (by omega)]; simp; omega
    have bb := bsS_B A (lcA TX A (szN (gN A 8))) (fun c k => lcA_le _ _ _ _ _) c
    cases q : frA A c with
    | false =>
      obtain ⟨h', lt', R', c1, H', r1, r2, K⟩ := ih (c + 1) R y6 lt h (by omega) H (by omega)
      refine ⟨h', lt', R', c1, H', by omega, by omega, fun r Z => ?_⟩
      have A1 := K r Z
      rw [bsS, if_neg (fun z => absurd (q.symm.trans z.1) (by decide))] at A1
      refine a_iload_5 rfl rfl ?_
      refine a_bipush (v := (nI 30)) rfl rfl rfl ?_
      refine a_cmpN_ge rfl rfl rfl (by omega) (by omega) (fun c_23 => False.elim (by omega)) (fun _ => ?_)
      refine a_aload_0 rfl rfl ?_
      refine a_getr rfl rfl rfl (fun _ _ _ => rfl) rfl ?_
      refine a_geti rfl rfl rfl (fun _ _ _ => rfl) ?_
      refine a_as (y := _) (CI_op H) ?_
      refine a_iload_5 rfl rfl ?_
      refine a_statI rfl rfl (e_has (bsI 30 (frA A)) c (by omega)) (Nat.le_of_ble_eq_true rfl) ⟨rfl, rfl, rfl⟩ rfl rfl rfl (Nat.le_of_ble_eq_true rfl) rfl ?_
      refine a_ifb_eq rfl rfl rfl (fun _ => ?_) (fun c_38 => by first | exact absurd (by rw [etb, q]; decide) c_38 | exact absurd c_38 (by rw [etb, q]; decide))
      refine a_iinc_5 rfl rfl (nI_inc _ _) rfl ?_
      refine a_goto rfl rfl ?_
      exact A1
    | true =>
      have Cr := e_ruling (L := L) (rt := rt) (rp := rp) (sw := sw) (gl := gl) H
      obtain ⟨h1, R1, C1, c1, W1, H1, r1, r2⟩ := C_look (L := L) (rt := rt) (rp := rp) (sw := sw) (gl := gl) H (bOK_rl (TX := TX) H.1) (nI c) (gN A 8) (szN (gN A 8)) (by omega) l8 zz (Or.inr (inC_nI (by omega)))
      obtain ⟨h2, C2, c2, W2⟩ := e_serves (L := L) (rt := rt) (rp := rp) (sw := sw) (gl := gl) H1 W1
      have H2 : CI A B TX R1 t (rlO A) h2 := CI_law H1 rfl rfl rfl c2 (LW_LI H1 W2)
      cases g : gdS (lcA TX A (szN (gN A 8)) c) A with
      | false =>
        have C2' : avE 3 141 [.ref 7] (sX L t (rlO A) rt rp sw h1 gl) (some (.int (bB false)), sX L t (rlO A) rt rp sw h2 gl) := by rw [← g]; exact C2
        obtain ⟨h', lt', R', c3, H', r3, r4, K⟩ := ih (c + 1) R1 (.int (-1)) (rlO A) h2 (by omega) H2 (by omega)
        refine ⟨h', lt', R', CF_trans (CF_cl rfl c1) (CF_trans (CF_cl rfl c2) c3), H', by omega, by omega, fun r Z => ?_⟩
        have A1 := K r Z
        rw [bsS, if_neg (fun z => absurd (g.symm.trans z.2.1) (by decide))] at A1
        cases hro : rlO A with
        | none =>
          rw [hro] at Cr C1 C2' A1
          refine a_iload_5 rfl rfl ?_
          refine a_bipush (v := (nI 30)) rfl rfl rfl ?_
          refine a_cmpN_ge rfl rfl rfl (by omega) (by omega) (fun c_23 => False.elim (by omega)) (fun _ => ?_)
          refine a_aload_0 rfl rfl ?_
          refine a_getr rfl rfl rfl (fun _ _ _ => rfl) rfl ?_
          refine a_geti rfl rfl rfl (fun _ _ _ => rfl) ?_
          refine a_as (y := _) (CI_op H) ?_
          refine a_iload_5 rfl rfl ?_
          refine a_statI rfl rfl (e_has (bsI 30 (frA A)) c (by omega)) (Nat.le_of_ble_eq_true rfl) ⟨rfl, rfl, rfl⟩ rfl rfl rfl (Nat.le_of_ble_eq_true rfl) rfl ?_
          refine a_ifb_eq rfl rfl rfl (fun c_38 => by first | exact absurd c_38 (not_not_intro (by rw [etb, q])) | exact absurd (not_not_intro (by rw [etb, q])) c_38) (fun _ => ?_)
          refine a_aload_0 rfl rfl ?_
          refine a_getr rfl rfl rfl (fun _ _ _ => rfl) rfl ?_
          refine a_aload_0 rfl rfl ?_
          refine a_virtN rfl rfl (Cr) (Nat.le_of_ble_eq_true rfl) ⟨rfl, rfl, rfl, rfl⟩ rfl rfl rfl (Nat.le_of_ble_eq_true rfl) rfl rfl ?_
          refine a_iload_5 rfl rfl ?_
          refine a_iload_2 rfl rfl ?_
          refine a_iload_2 rfl rfl ?_
          refine a_statI rfl rfl (e_sizeAt (gN A 8) (by omega)) (Nat.le_of_ble_eq_true rfl) ⟨rfl, rfl, rfl⟩ rfl rfl rfl (Nat.le_of_ble_eq_true rfl) rfl ?_
          refine a_virt0 rfl rfl (C1) (Nat.le_of_ble_eq_true rfl) ⟨rfl, rfl, rfl, rfl⟩ rfl rfl rfl (Nat.le_of_ble_eq_true rfl) rfl rfl ?_
          refine a_aload_0 rfl rfl ?_
          refine a_virtI rfl rfl (C2') (Nat.le_of_ble_eq_true rfl) ⟨rfl, rfl, rfl, rfl⟩ rfl rfl rfl (Nat.le_of_ble_eq_true rfl) rfl rfl ?_
          refine a_ifN_eq rfl rfl rfl (by decide) (fun _ => ?_) (fun c_63 => False.elim (absurd c_63 (by decide)))
          refine a_iconst (v := (-1)) rfl rfl rfl ?_
          refine a_istore_6 rfl rfl rfl ?_
          refine a_iload_6 rfl rfl ?_
          refine a_iload_4 rfl rfl ?_
          refine a_cmpI_le rfl rfl rfl (show (-1 : Int32).toInt = -1 from by decide) (iI_toInt (by omega) (by omega)) (fun _ => ?_) (fun c_83 => False.elim (by omega))
          refine a_iinc_5 rfl rfl (nI_inc _ _) rfl ?_
          refine a_goto rfl rfl ?_
          exact A1
        | some o =>
          rw [hro] at Cr C1 C2' A1
          refine a_iload_5 rfl rfl ?_
          refine a_bipush (v := (nI 30)) rfl rfl rfl ?_
          refine a_cmpN_ge rfl rfl rfl (by omega) (by omega) (fun c_23 => False.elim (by omega)) (fun _ => ?_)
          refine a_aload_0 rfl rfl ?_
          refine a_getr rfl rfl rfl (fun _ _ _ => rfl) rfl ?_
          refine a_geti rfl rfl rfl (fun _ _ _ => rfl) ?_
          refine a_as (y := _) (CI_op H) ?_
          refine a_iload_5 rfl rfl ?_
          refine a_statI rfl rfl (e_has (bsI 30 (frA A)) c (by omega)) (Nat.le_of_ble_eq_true rfl) ⟨rfl, rfl, rfl⟩ rfl rfl rfl (Nat.le_of_ble_eq_true rfl) rfl ?_
          refine a_ifb_eq rfl rfl rfl (fun c_38 => by first | exact absurd c_38 (not_not_intro (by rw [etb, q])) | exact absurd (not_not_intro (by rw [etb, q])) c_38) (fun _ => ?_)
          refine a_aload_0 rfl rfl ?_
          refine a_getr rfl rfl rfl (fun _ _ _ => rfl) rfl ?_
          refine a_aload_0 rfl rfl ?_
          refine a_virtR rfl rfl (Cr) (Nat.le_of_ble_eq_true rfl) ⟨rfl, rfl, rfl, rfl⟩ rfl rfl rfl (Nat.le_of_ble_eq_true rfl) rfl rfl ?_
          refine a_iload_5 rfl rfl ?_
          refine a_iload_2 rfl rfl ?_
          refine a_iload_2 rfl rfl ?_
          refine a_statI rfl rfl (e_sizeAt (gN A 8) (by omega)) (Nat.le_of_ble_eq_true rfl) ⟨rfl, rfl, rfl⟩ rfl rfl rfl (Nat.le_of_ble_eq_true rfl) rfl ?_
          refine a_virt0 rfl rfl (C1) (Nat.le_of_ble_eq_true rfl) ⟨rfl, rfl, rfl, rfl⟩ rfl rfl rfl (Nat.le_of_ble_eq_true rfl) rfl rfl ?_
          refine a_aload_0 rfl rfl ?_
          refine a_virtI rfl rfl (C2') (Nat.le_of_ble_eq_true rfl) ⟨rfl, rfl, rfl, rfl⟩ rfl rfl rfl (Nat.le_of_ble_eq_true rfl) rfl rfl ?_
          refine a_ifN_eq rfl rfl rfl (by decide) (fun _ => ?_) (fun c_63 => False.elim (absurd c_63 (by decide)))
          refine a_iconst (v := (-1)) rfl rfl rfl ?_
          refine a_istore_6 rfl rfl rfl ?_
          refine a_iload_6 rfl rfl ?_
          refine a_iload_4 rfl rfl ?_
          refine a_cmpI_le rfl rfl rfl (show (-1 : Int32).toInt = -1 from by decide) (iI_toInt (by omega) (by omega)) (fun _ => ?_) (fun c_83 => False.elim (by omega))
          refine a_iinc_5 rfl rfl (nI_inc _ _) rfl ?_
          refine a_goto rfl rfl ?_
          exact A1
      | true =>
        have C2' : avE 3 141 [.ref 7] (sX L t (rlO A) rt rp sw h1 gl) (some (.int (bB true)), sX L t (rlO A) rt rp sw h2 gl) := by rw [← g]; exact C2
        obtain ⟨h3, C3, c3, W3⟩ := e_together (L := L) (rt := rt) (rp := rp) (sw := sw) (gl := gl) W2
        have C3' : avE 3 142 [.ref 8] (sX L t (rlO A) rt rp sw h2 gl) (some (.int (nI (smS (lcA TX A (szN (gN A 8)) c) 30))), sX L t (rlO A) rt rp sw h3 gl) := C3
        have sl := smS_le (lcA TX A (szN (gN A 8)) c) (fun k => lcA_le _ _ _ _ _) 30
        have H3 : CI A B TX R1 t (rlO A) h3 := CI_law H2 rfl rfl rfl c3 (LW_LI H2 W3)
        obtain ⟨h', lt', R', c4, H', r3, r4, K⟩ := ih (c + 1) R1 (.int (iI ((smS (lcA TX A (szN (gN A 8)) c) 30 : Nat) : Int))) (rlO A) h3 (by omega) H3 (by omega)
        refine ⟨h', lt', R', CF_trans (CF_cl rfl c1) (CF_trans (CF_cl rfl c2) (CF_trans (CF_cl rfl c3) c4)), H', by omega, by omega, fun r Z => ?_⟩
        have A1 := K r Z
        rw [bsS] at A1
        cases hro : rlO A with
        | none =>
          rw [hro] at Cr C1 C2' C3' A1
          refine a_iload_5 rfl rfl ?_
          refine a_bipush (v := (nI 30)) rfl rfl rfl ?_
          refine a_cmpN_ge rfl rfl rfl (by omega) (by omega) (fun c_23 => False.elim (by omega)) (fun _ => ?_)
          refine a_aload_0 rfl rfl ?_
          refine a_getr rfl rfl rfl (fun _ _ _ => rfl) rfl ?_
          refine a_geti rfl rfl rfl (fun _ _ _ => rfl) ?_
          refine a_as (y := _) (CI_op H) ?_
          refine a_iload_5 rfl rfl ?_
          refine a_statI rfl rfl (e_has (bsI 30 (frA A)) c (by omega)) (Nat.le_of_ble_eq_true rfl) ⟨rfl, rfl, rfl⟩ rfl rfl rfl (Nat.le_of_ble_eq_true rfl) rfl ?_
          refine a_ifb_eq rfl rfl rfl (fun c_38 => by first | exact absurd c_38 (not_not_intro (by rw [etb, q])) | exact absurd (not_not_intro (by rw [etb, q])) c_38) (fun _ => ?_)
          refine a_aload_0 rfl rfl ?_
          refine a_getr rfl rfl rfl (fun _ _ _ => rfl) rfl ?_
          refine a_aload_0 rfl rfl ?_
          refine a_virtN rfl rfl (Cr) (Nat.le_of_ble_eq_true rfl) ⟨rfl, rfl, rfl, rfl⟩ rfl rfl rfl (Nat.le_of_ble_eq_true rfl) rfl rfl ?_
          refine a_iload_5 rfl rfl ?_
          refine a_iload_2 rfl rfl ?_
          refine a_iload_2 rfl rfl ?_
          refine a_statI rfl rfl (e_sizeAt (gN A 8) (by omega)) (Nat.le_of_ble_eq_true rfl) ⟨rfl, rfl, rfl⟩ rfl rfl rfl (Nat.le_of_ble_eq_true rfl) rfl ?_
          refine a_virt0 rfl rfl (C1) (Nat.le_of_ble_eq_true rfl) ⟨rfl, rfl, rfl, rfl⟩ rfl rfl rfl (Nat.le_of_ble_eq_true rfl) rfl rfl ?_
          refine a_aload_0 rfl rfl ?_
          refine a_virtI rfl rfl (C2') (Nat.le_of_ble_eq_true rfl) ⟨rfl, rfl, rfl, rfl⟩ rfl rfl rfl (Nat.le_of_ble_eq_true rfl) rfl rfl ?_
          refine a_ifN_eq rfl rfl rfl (by decide) (fun c_63 => False.elim (absurd c_63 (by decide))) (fun _ => ?_)
          refine a_aload_0 rfl rfl ?_
          refine a_getr rfl rfl rfl (fun _ _ _ => rfl) rfl ?_
          refine a_virtI rfl rfl (C3') (Nat.le_of_ble_eq_true rfl) ⟨rfl, rfl, rfl, rfl⟩ rfl rfl rfl (Nat.le_of_ble_eq_true rfl) rfl rfl ?_
          refine a_as (y := iI (((smS (lcA TX A (szN (gN A 8)) c) 30 : Nat) : Int))) (iI_nat _).symm ?_
          refine a_goto rfl rfl ?_
          refine a_istore_6 rfl rfl rfl ?_
          refine a_iload_6 rfl rfl ?_
          refine a_iload_4 rfl rfl ?_
          refine a_cmpI_le rfl rfl rfl (iI_toInt (by omega) (by omega)) (iI_toInt (by omega) (by omega)) (fun c_83 => ?_) (fun c_83 => ?_)
          · refine a_iinc_5 rfl rfl (nI_inc _ _) rfl ?_
            refine a_goto rfl rfl ?_
            first | (rw [if_pos ⟨q, g, by omega⟩] at A1; exact A1) | (rw [if_neg (fun z => absurd z.2.2 (by omega))] at A1; exact A1)
          · refine a_iload_6 rfl rfl ?_
            refine a_istore_4 rfl rfl rfl ?_
            refine a_iload_5 rfl rfl ?_
            refine a_istore_3 rfl rfl rfl ?_
            refine a_iinc_5 rfl rfl (nI_inc _ _) rfl ?_
            refine a_goto rfl rfl ?_
            first | (rw [if_pos ⟨q, g, by omega⟩] at A1; exact A1) | (rw [if_neg (fun z => absurd z.2.2 (by omega))] at A1; exact A1)
        | some o =>
          rw [hro] at Cr C1 C2' C3' A1
          refine a_iload_5 rfl rfl ?_
          refine a_bipush (v := (nI 30)) rfl rfl rfl ?_
          refine a_cmpN_ge rfl rfl rfl (by omega) (by omega) (fun c_23 => False.elim (by omega)) (fun _ => ?_)
          refine a_aload_0 rfl rfl ?_
          refine a_getr rfl rfl rfl (fun _ _ _ => rfl) rfl ?_
          refine a_geti rfl rfl rfl (fun _ _ _ => rfl) ?_
          refine a_as (y := _) (CI_op H) ?_
          refine a_iload_5 rfl rfl ?_
          refine a_statI rfl rfl (e_has (bsI 30 (frA A)) c (by omega)) (Nat.le_of_ble_eq_true rfl) ⟨rfl, rfl, rfl⟩ rfl rfl rfl (Nat.le_of_ble_eq_true rfl) rfl ?_
          refine a_ifb_eq rfl rfl rfl (fun c_38 => by first | exact absurd c_38 (not_not_intro (by rw [etb, q])) | exact absurd (not_not_intro (by rw [etb, q])) c_38) (fun _ => ?_)
          refine a_aload_0 rfl rfl ?_
          refine a_getr rfl rfl rfl (fun _ _ _ => rfl) rfl ?_
          refine a_aload_0 rfl rfl ?_
          refine a_virtR rfl rfl (Cr) (Nat.le_of_ble_eq_true rfl) ⟨rfl, rfl, rfl, rfl⟩ rfl rfl rfl (Nat.le_of_ble_eq_true rfl) rfl rfl ?_
          refine a_iload_5 rfl rfl ?_
          refine a_iload_2 rfl rfl ?_
          refine a_iload_2 rfl rfl ?_
          refine a_statI rfl rfl (e_sizeAt (gN A 8) (by omega)) (Nat.le_of_ble_eq_true rfl) ⟨rfl, rfl, rfl⟩ rfl rfl rfl (Nat.le_of_ble_eq_true rfl) rfl ?_
          refine a_virt0 rfl rfl (C1) (Nat.le_of_ble_eq_true rfl) ⟨rfl, rfl, rfl, rfl⟩ rfl rfl rfl (Nat.le_of_ble_eq_true rfl) rfl rfl ?_
          refine a_aload_0 rfl rfl ?_
          refine a_virtI rfl rfl (C2') (Nat.le_of_ble_eq_true rfl) ⟨rfl, rfl, rfl, rfl⟩ rfl rfl rfl (Nat.le_of_ble_eq_true rfl) rfl rfl ?_
          refine a_ifN_eq rfl rfl rfl (by decide) (fun c_63 => False.elim (absurd c_63 (by decide))) (fun _ => ?_)
          refine a_aload_0 rfl rfl ?_
          refine a_getr rfl rfl rfl (fun _ _ _ => rfl) rfl ?_
          refine a_virtI rfl rfl (C3') (Nat.le_of_ble_eq_true rfl) ⟨rfl, rfl, rfl, rfl⟩ rfl rfl rfl (Nat.le_of_ble_eq_true rfl) rfl rfl ?_
          refine a_as (y := iI (((smS (lcA TX A (szN (gN A 8)) c) 30 : Nat) : Int))) (iI_nat _).symm ?_
          refine a_goto rfl rfl ?_
          refine a_istore_6 rfl rfl rfl ?_
          refine a_iload_6 rfl rfl ?_
          refine a_iload_4 rfl rfl ?_
          refine a_cmpI_le rfl rfl rfl (iI_toInt (by omega) (by omega)) (iI_toInt (by omega) (by omega)) (fun c_83 => ?_) (fun c_83 => ?_)
          · refine a_iinc_5 rfl rfl (nI_inc _ _) rfl ?_
            refine a_goto rfl rfl ?_
            first | (rw [if_pos ⟨q, g, by omega⟩] at A1; exact A1) | (rw [if_neg (fun z => absurd z.2.2 (by omega))] at A1; exact A1)
          · refine a_iload_6 rfl rfl ?_
            refine a_istore_4 rfl rfl rfl ?_
            refine a_iload_5 rfl rfl ?_
            refine a_istore_3 rfl rfl rfl ?_
            refine a_iinc_5 rfl rfl (nI_inc _ _) rfl ?_
            refine a_goto rfl rfl ?_
            first | (rw [if_pos ⟨q, g, by omega⟩] at A1; exact A1) | (rw [if_neg (fun z => absurd z.2.2 (by omega))] at A1; exact A1)
end BC
