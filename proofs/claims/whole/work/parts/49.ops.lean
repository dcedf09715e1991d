/-! SINGLE DEEDS -/
def opP (n dC kC : Nat) (asC : List Value) (dR kR : Nat) (asR : List Value) (TX : Nat → Txt) (A B : Nat → Int32) (v : Int32) (A' B' : Nat → Int32) : Prop := opC n dC kC asC TX A B v A' B' ∧ opR dR kR asR TX A B v A' B' ∧ okA A' ∧ gN A' 1 = gN A 1
theorem rPth_same {A A' : Nat → Int32} {F G : Nat → Int32} (e : sameC A A') (H : rPth (frA A) F G) : rPth (frA A') F G := rPth_ext (frA_same e) H
theorem u2p {α : Type} {F : Nat → α} {a b i : Nat} {v w : α} (h1 : i ≠ a) (h2 : i ≠ b) : va_up (va_up F a v) b w i = F i := by rw [va_up_ne _ _ h2, va_up_ne _ _ h1]
theorem u3p {α : Type} {F : Nat → α} {a b c i : Nat} {v w x : α} (h1 : i ≠ a) (h2 : i ≠ b) (h3 : i ≠ c) : va_up (va_up (va_up F a v) b w) c x i = F i := by rw [va_up_ne _ _ h3, va_up_ne _ _ h2, va_up_ne _ _ h1]
theorem same3 {A : Nat → Int32} {a b c : Nat} {v w x : Int32} {lo hi : Nat} (h1 : a < lo ∨ hi ≤ a) (h2 : b < lo ∨ hi ≤ b) (h3 : c < lo ∨ hi ≤ c) : same A (va_up (va_up (va_up A a v) b w) c x) lo hi := fun i g1 g2 => u3p (by omega) (by omega) (by omega)
section O1
variable {A B : Nat → Int32} {TX : Nat → Txt}
theorem p_height (hA : okA A) (c v : Int32) : ∃ (b : Bool) (A' : Nat → Int32), opP 1 1 28 [.ref 7, .int c, .int v] 2 188 [.ref 81, .int c, .int v] TX A B (bB b) A' B := by
  by_cases hv : inC c ∧ 0 ≤ v.toInt ∧ v.toInt ≤ 9
  · obtain ⟨n, hn, rfl⟩ := inC_of hv.1
    have ok : okA (va_up A (68 + n) v) := okA_up hA (by omega) (by omega) (by omega) (by unfold inB; rw [bd_height hn]; exact hv.2)
    refine ⟨true, va_up A (68 + n) v, ?_, ?_, ok, gN_c (va_up_ne _ _ (by omega))⟩
    · intro L t lt rt rp sw h gl R H hR
      have cf : CF [8, 13] h (mvPut (mvPut h 13 n v) 8 9 (h 8 9 + nI 1)) := CF_put (CF_put CF_refl rfl) rfl
      have hr : HR 11 (va_up A (68 + n) v) (mvPut (mvPut h 13 n v) 8 9 (h 8 9 + nI 1)) := HR_gen (S := [8, 13]) H.1.1 H.2.2.2.1 cf (Or.inr (fun x hx => ⟨(H.2.2.2.1.1 x hx).1.trans (va_up_ne _ _ (by omega)).symm, by
        show va_up (h 13) n v x = va_up A (68 + n) v (68 + x)
        by_cases e : x = n
        · subst e; rw [va_up_self, va_up_self]
        · rw [va_up_ne _ _ e, va_up_ne _ _ (by omega)]; exact (H.2.2.2.1.1 x hx).2⟩)) (Or.inl ⟨rfl, (va_up_ne _ _ (by omega)), (same_up (by omega)), (same_up (by omega))⟩) (Or.inl ⟨rfl, (va_up_ne _ _ (by omega)), (same_up (by omega))⟩) (Or.inl ⟨rfl, (va_up_ne _ _ (by omega)), (same_up (by omega))⟩) (Or.inl ⟨rfl, (va_up_ne _ _ (by omega)), (same_up (by omega))⟩) (Or.inl ⟨rfl, (va_up_ne _ _ (by omega)), (same_up (by omega))⟩) (Or.inl ⟨rfl, (va_up_ne _ _ (by omega)), (same_up (by omega))⟩) (Or.inl ⟨rfl, (va_up_ne _ _ (by omega)), (same_up (by omega))⟩) (Or.inl ⟨rfl, (same_up (by omega))⟩) (H.2.2.2.1.2.2.2.2.2.2.1.trans (va_up_ne _ _ (by omega)).symm) (H.2.2.2.1.2.2.2.2.2.2.2.trans (va_up_ne _ _ (by omega)).symm)
      exact ⟨_, lt, R + 1, sw, c_height_T n v hn hv.2, CF_mono (by decide) cf, CI_gen H cf rfl rfl ok (va_up_ne _ _ (by omega)) hr (LI_forget H.2.2.2.2.2.2 hR rfl rfl (rPth_ext (op := frA A) (F := h 9) (G := h 10) (fun j hj => by unfold frA; rw [va_up_ne _ _ (by omega)]) (CI_rP H))), by omega, by omega⟩
    · intro L t lt rt rp sw h gl ok H
      have C := r_height_T (L := L) (t := t) (lt := lt) (rt := rt) (rp := rp) (sw := sw) (h := h) (gl := gl) n v hn hv.2
      refine ⟨_, gl, C, CF_put CF_refl rfl, fun _ _ => rfl, RI_up H ?_ rfl rfl rfl (va_up_ne _ _ (by omega))⟩
      show va_up (h 82) (68 + n) v = _
      rw [H.1]
  · refine ⟨false, A, ?_, ?_, hA, rfl⟩
    · intro L t lt rt rp sw h gl R H hR
      exact ⟨h, lt, R, sw, c_height_F c v hv, CF_refl, H, by omega, by omega⟩
    · intro L t lt rt rp sw h gl ok H
      exact ⟨h, gl, r_height_F c v hv, CF_refl, fun _ _ => rfl, H⟩
theorem p_gain (hA : okA A) (m v : Int32) : ∃ r A', opP 0 1 163 [.ref 7, .int m, .int v] 1 313 [.ref 81, .int m, .int v] TX A B r A' B := by
  by_cases hv : gnP m v
  · obtain ⟨n, hn, rfl, _⟩ := cell_of (m := 12) hv.1.1 (by have := hv.1.2; omega)
    have ok : okA (va_up A (138 + n) v) := okA_up hA (by omega) (by omega) (by omega) (by unfold inB; rw [bd_gain hn]; exact hv.2)
    refine ⟨nI 1, va_up A (138 + n) v, ?_, ?_, ok, gN_c (va_up_ne _ _ (by omega))⟩
    · intro L t lt rt rp sw h gl R H hR
      have cf : CF [32] h (mvPut h 32 n v) := CF_put CF_refl rfl
      have hr : HR 11 (va_up A (138 + n) v) (mvPut h 32 n v) := HR_gen (S := [32]) H.1.1 H.2.2.2.1 cf (Or.inl ⟨rfl, (same_up (by omega))⟩) (Or.inl ⟨rfl, (va_up_ne _ _ (by omega)), (same_up (by omega)), (same_up (by omega))⟩) (Or.inl ⟨rfl, (va_up_ne _ _ (by omega)), (same_up (by omega))⟩) (Or.inl ⟨rfl, (va_up_ne _ _ (by omega)), (same_up (by omega))⟩) (Or.inl ⟨rfl, (va_up_ne _ _ (by omega)), (same_up (by omega))⟩) (Or.inl ⟨rfl, (va_up_ne _ _ (by omega)), (same_up (by omega))⟩) (Or.inl ⟨rfl, (va_up_ne _ _ (by omega)), (same_up (by omega))⟩) (Or.inl ⟨rfl, (va_up_ne _ _ (by omega)), (same_up (by omega))⟩) (Or.inr (fun x hx => by
        show va_up (h 32) n v x = va_up A (138 + n) v (138 + x)
        by_cases e : x = n
        · subst e; rw [va_up_self, va_up_self]
        · rw [va_up_ne _ _ e, va_up_ne _ _ (by omega)]; exact H.2.2.2.1.2.2.2.2.2.1 x hx)) (H.2.2.2.1.2.2.2.2.2.2.1.trans (va_up_ne _ _ (by omega)).symm) (H.2.2.2.1.2.2.2.2.2.2.2.trans (va_up_ne _ _ (by omega)).symm)
      exact ⟨_, lt, R, sw, c_gain_T n v hn hv.2, CF_mono (by decide) cf, CI_gen H cf rfl rfl ok (va_up_ne _ _ (by omega)) hr (LI_cf (LI_same (fun i h1 h2 => va_up_ne _ _ (by omega)) (va_up_ne _ _ (by omega)) H.2.2.2.2.2.2) rfl cf), by omega, by omega⟩
    · intro L t lt rt rp sw h gl ok H
      have C := r_gain_T (L := L) (t := t) (lt := lt) (rt := rt) (rp := rp) (sw := sw) (h := h) (gl := gl) n v hn hv.2
      refine ⟨_, gl, C, CF_put CF_refl rfl, fun _ _ => rfl, RI_up H ?_ rfl rfl rfl (va_up_ne _ _ (by omega))⟩
      show va_up (h 82) (138 + n) v = _
      rw [H.1]
  · refine ⟨nI 0, A, ?_, ?_, hA, rfl⟩
    · intro L t lt rt rp sw h gl R H hR
      exact ⟨h, lt, R, sw, c_gain_F m v hv, CF_refl, H, by omega, by omega⟩
    · intro L t lt rt rp sw h gl ok H
      exact ⟨h, gl, r_gain_F m v hv, CF_refl, fun _ _ => rfl, H⟩
theorem p_by (hA : okA A) (v : Int32) : ∃ r A', opP 0 1 82 [.ref 7, .int v] 1 235 [.ref 81, .int v] TX A B r A' B := by
  have h4 := gN_le (m := 4) hA.1 (i := 1) (by omega) (by decide)
  have e1 : A 1 = nI (gN A 1) := gN_eq hA.1 (by omega) (by decide)
  by_cases hv : -1 ≤ v.toInt ∧ v.toInt < gN A 1
  · have ok : okA (va_up A 2 v) := by
      refine ⟨rOK_up hA.1 (show (-1 : Int) ≤ v.toInt ∧ v.toInt ≤ 3 by omega), UI_A hA.1 hA.2.1 (va_up_ne _ _ (by omega)) (va_up_ne _ _ (by omega)) (same_up (by omega)) (same_up (by omega)), ?_⟩
      rw [va_up_self, va_up_ne _ _ (by omega), e1, nI_toInt (by omega)]
      exact hv.2
    refine ⟨nI 1, va_up A 2 v, ?_, ?_, ok, gN_c (va_up_ne _ _ (by omega))⟩
    · intro L t lt rt rp sw h gl R H hR
      have cf : CF [11] h (mvPut h 11 11 v) := CF_put CF_refl rfl
      have hr : HR 11 (va_up A 2 v) (mvPut h 11 11 v) := HR_gen (S := [11]) H.1.1 H.2.2.2.1 cf (Or.inl ⟨rfl, (same_up (by omega))⟩) (Or.inl ⟨rfl, (va_up_ne _ _ (by omega)), (same_up (by omega)), (same_up (by omega))⟩) (Or.inl ⟨rfl, (va_up_ne _ _ (by omega)), (same_up (by omega))⟩) (Or.inr (by
        have := PR_A hA.1 H.2.2.2.1.2.2.2.1 (va_up_ne A v (show (3 : Nat) ≠ 2 by omega)) (same_up (by omega))
        exact this)) (Or.inl ⟨rfl, (va_up_ne _ _ (by omega)), (same_up (by omega))⟩) (Or.inl ⟨rfl, (va_up_ne _ _ (by omega)), (same_up (by omega))⟩) (Or.inl ⟨rfl, (va_up_ne _ _ (by omega)), (same_up (by omega))⟩) (Or.inl ⟨rfl, (va_up_ne _ _ (by omega)), (same_up (by omega))⟩) (Or.inl ⟨rfl, (same_up (by omega))⟩) (rfl) (H.2.2.2.1.2.2.2.2.2.2.2.trans (va_up_ne _ _ (by omega)).symm)
      have c := c_by_T (L := L) (t := t) (lt := lt) (rt := rt) (rp := rp) (sw := sw) (h := h) (gl := gl) (gN A 1) H.2.2.1.2.1 H.2.2.1.2.2 (H.2.2.2.1.2.2.2.2.2.2.2.trans e1) v hv
      exact ⟨_, lt, R, sw, c, CF_mono (by decide) cf, CI_gen H cf rfl rfl ok (va_up_ne _ _ (by omega)) hr (LI_cf (LI_same (fun i h1 h2 => va_up_ne _ _ (by omega)) (va_up_ne _ _ (by omega)) H.2.2.2.2.2.2) rfl cf), by omega, by omega⟩
    · intro L t lt rt rp sw h gl ok H
      have C := r_by_T (L := L) (t := t) (lt := lt) (rt := rt) (rp := rp) (sw := sw) (h := h) (gl := gl) (gN A 1) h4 (by rw [H.1]; exact e1) v hv
      refine ⟨_, gl, C, CF_put CF_refl rfl, fun _ _ => rfl, RI_up H ?_ rfl rfl rfl (va_up_ne _ _ (by omega))⟩
      show va_up (h 82) 2 v = _
      rw [H.1]
  · refine ⟨nI 0, A, ?_, ?_, hA, rfl⟩
    · intro L t lt rt rp sw h gl R H hR
      exact ⟨h, lt, R, sw, c_by_F (gN A 1) H.2.2.1.2.1 H.2.2.1.2.2 (H.2.2.2.1.2.2.2.2.2.2.2.trans e1) v hv, CF_refl, H, by omega, by omega⟩
    · intro L t lt rt rp sw h gl ok H
      exact ⟨h, gl, r_by_F (gN A 1) h4 (by rw [H.1]; exact e1) v hv, CF_refl, fun _ _ => rfl, H⟩
theorem bd_pair {x k m : Nat} (h : (98 ≤ x ∧ x + 2 * k < 138) ∨ (150 ≤ x ∧ x + 2 * k < 166)) (he : x % 2 = 0) : bnd (x + 2 * k) = (0, 29) := by
  unfold bnd
  rcases h with h | h
  · rw [if_neg (by omega), if_neg (by omega), if_neg (by omega), if_neg (by omega), if_pos (by omega), if_pos (by omega)]
  · rw [if_neg (by omega), if_neg (by omega), if_neg (by omega), if_neg (by omega), if_neg (by omega), if_neg (by omega), if_pos (by omega), if_pos (by omega)]
theorem bd_pair1 {x k m : Nat} (h : (98 ≤ x ∧ x + 2 * k + 1 < 138) ∨ (150 ≤ x ∧ x + 2 * k + 1 < 166)) (he : x % 2 = 0) : bnd (x + 2 * k + 1) = (0, 15) := by
  unfold bnd
  rcases h with h | h
  · rw [if_neg (by omega), if_neg (by omega), if_neg (by omega), if_neg (by omega), if_pos (by omega), if_neg (by omega)]
  · rw [if_neg (by omega), if_neg (by omega), if_neg (by omega), if_neg (by omega), if_neg (by omega), if_neg (by omega), if_pos (by omega), if_neg (by omega)]
theorem p_work (hA : okA A) (c v : Int32) : ∃ r A', opP 0 2 137 [.ref 7, .int c, .int v] 3 294 [.ref 81, .int c, .int v] TX A B r A' B := by
  have hk6 := gN_le (m := 6) hA.1 (i := 4) (by omega) (by decide)
  have ek : A 4 = nI (gN A 4) := gN_eq hA.1 (by omega) (by decide)
  by_cases hz : c = -1
  · subst hz
    have ok : okA (va_up A 4 (nI 0)) := okA_up hA (by omega) (by omega) (by omega) (inB_nI (m := 6) rfl (by omega) (by omega))
    refine ⟨nI 0, va_up A 4 (nI 0), ?_, ?_, ok, gN_c (va_up_ne _ _ (by omega))⟩
    · intro L t lt rt rp sw h gl R H hR
      have cf : CF [20] h (mvPut h 20 2 (nI 0)) := CF_put CF_refl rfl
      have hr : HR 11 (va_up A 4 (nI 0)) (mvPut h 20 2 (nI 0)) := HR_gen (S := [20]) H.1.1 H.2.2.2.1 cf (Or.inl ⟨rfl, (same_up (by omega))⟩) (Or.inl ⟨rfl, (va_up_ne _ _ (by omega)), (same_up (by omega)), (same_up (by omega))⟩) (Or.inl ⟨rfl, (va_up_ne _ _ (by omega)), (same_up (by omega))⟩) (Or.inl ⟨rfl, (va_up_ne _ _ (by omega)), (same_up (by omega))⟩) (Or.inr (⟨rfl, fun i hi => absurd hi (by rw [gN_nI (va_up_self A 4 (nI 0)) (by omega)]; omega)⟩)) (Or.inl ⟨rfl, (va_up_ne _ _ (by omega)), (same_up (by omega))⟩) (Or.inl ⟨rfl, (va_up_ne _ _ (by omega)), (same_up (by omega))⟩) (Or.inl ⟨rfl, (va_up_ne _ _ (by omega)), (same_up (by omega))⟩) (Or.inl ⟨rfl, (same_up (by omega))⟩) (H.2.2.2.1.2.2.2.2.2.2.1.trans (va_up_ne _ _ (by omega)).symm) (H.2.2.2.1.2.2.2.2.2.2.2.trans (va_up_ne _ _ (by omega)).symm)
      have C := c_tell_Z_20 (L := L) (t := t) (lt := lt) (rt := rt) (rp := rp) (sw := sw) (h := h) (gl := gl) v
      have C2 : avE 2 137 [.ref 7, .int (-1), .int v] (sX L t lt rt rp sw h gl) (some (.int (nI 0)), sX L t lt rt rp sw (mvPut h 20 2 (nI 0)) gl) := by
        show avA _ 137 0 [.ref 7, .int (-1), .int (v)] [] _ _
        refine a_aload_0 rfl rfl ?_
        refine a_getr rfl rfl rfl (fun _ _ _ => rfl) rfl ?_
        refine a_getr rfl rfl rfl (fun _ _ _ => rfl) rfl ?_
        refine a_iload_1 rfl rfl ?_
        refine a_iload_2 rfl rfl ?_
        refine a_virtI rfl rfl (C) (Nat.le_of_ble_eq_true rfl) ⟨rfl, rfl, rfl, rfl⟩ rfl rfl rfl (Nat.le_of_ble_eq_true rfl) rfl rfl ?_
        exact a_iret rfl rfl
      exact ⟨_, lt, R, sw, C2, CF_mono (by decide) cf, CI_gen H cf rfl rfl ok (va_up_ne _ _ (by omega)) hr (LI_cf (LI_same (fun i h1 h2 => va_up_ne _ _ (by omega)) (va_up_ne _ _ (by omega)) H.2.2.2.2.2.2) rfl cf), by omega, by omega⟩
    · intro L t lt rt rp sw h gl ok H
      have C := r_behind_Z_20 (L := L) (t := t) (lt := lt) (rt := rt) (rp := rp) (sw := sw) (h := h) (gl := gl) v
      have C2 : avE 3 294 [.ref 81, .int (-1), .int v] (sX L t lt rt rp sw h gl) (some (.int (nI 0)), sX L t lt rt rp sw (mvPut h 82 4 (nI 0)) gl) := by
        show avA _ 294 0 [.ref 81, .int (-1), .int (v)] [] _ _
        refine a_aload_0 rfl rfl ?_
        refine a_bipush (v := (nI 98)) rfl rfl rfl ?_
        refine a_iconst (v := (nI 4)) rfl rfl rfl ?_
        refine a_iload_1 rfl rfl ?_
        refine a_iload_2 rfl rfl ?_
        refine a_virtI rfl rfl (C) (Nat.le_of_ble_eq_true rfl) ⟨rfl, rfl, rfl, rfl⟩ rfl rfl rfl (Nat.le_of_ble_eq_true rfl) rfl rfl ?_
        exact a_iret rfl rfl
      refine ⟨_, gl, C2, CF_put CF_refl rfl, fun _ _ => rfl, RI_up H ?_ rfl rfl rfl (va_up_ne _ _ (by omega))⟩
      show va_up (h 82) 4 (nI 0) = _
      rw [H.1]
  · by_cases hv : prP c v (gN A 4) 6
    · obtain ⟨n, hn, rfl⟩ := inC_of hv.1
      have hk := hv.2.2
      have b1 : bnd (98 + 2 * gN A 4) = (0, 29) := bd_pair (m := 0) (by omega) (by omega)
      have b2 : bnd (98 + 2 * gN A 4 + 1) = (0, 15) := bd_pair1 (m := 0) (by omega) (by omega)
      have ok : okA (va_up (va_up (va_up A (98 + 2 * gN A 4) (nI n)) (98 + 2 * gN A 4 + 1) v) 4 (nI (gN A 4 + 1))) := okA_up (okA_up (okA_up hA (by omega) (by omega) (by omega) (inB_nI (m := 29) b1 (by omega) (by omega))) (by omega) (by omega) (by omega) (by unfold inB; rw [b2]; exact hv.2.1)) (by omega) (by omega) (by omega) (inB_nI (m := 6) rfl (by omega) (by omega))
      refine ⟨nI (gN A 4 + 1), va_up (va_up (va_up A (98 + 2 * gN A 4) (nI n)) (98 + 2 * gN A 4 + 1) v) 4 (nI (gN A 4 + 1)), ?_, ?_, ok, gN_c (u3p (by omega) (by omega) (by omega))⟩
      · intro L t lt rt rp sw h gl R H hR
        have pa : PA 20 A 98 4 h := H.2.2.2.1.2.2.2.2.1.1
        have cf : CF [20, 21, 22] h (mvPut (mvPut (mvPut h 21 (gN A 4) (nI n)) 22 (gN A 4) v) 20 2 (nI (gN A 4 + 1))) := CF_put (CF_put (CF_put CF_refl rfl) rfl) rfl
        have hr : HR 11 (va_up (va_up (va_up A (98 + 2 * gN A 4) (nI n)) (98 + 2 * gN A 4 + 1) v) 4 (nI (gN A 4 + 1))) (mvPut (mvPut (mvPut h 21 (gN A 4) (nI n)) 22 (gN A 4) v) 20 2 (nI (gN A 4 + 1))) := HR_gen (S := [20, 21, 22]) H.1.1 H.2.2.2.1 cf (Or.inl ⟨rfl, (same3 (by omega) (by omega) (by omega))⟩) (Or.inl ⟨rfl, (u3p (by omega) (by omega) (by omega)), (same3 (by omega) (by omega) (by omega)), (same3 (by omega) (by omega) (by omega))⟩) (Or.inl ⟨rfl, (u3p (by omega) (by omega) (by omega)), (same3 (by omega) (by omega) (by omega))⟩) (Or.inl ⟨rfl, (u3p (by omega) (by omega) (by omega)), (same3 (by omega) (by omega) (by omega))⟩) (Or.inr (⟨rfl, fun i hi => by
          rw [gN_nI (va_up_self (va_up (va_up A (98 + 2 * gN A 4) (nI n)) (98 + 2 * gN A 4 + 1) v) 4 (nI (gN A 4 + 1))) (by omega)] at hi
          show va_up (h 21) (gN A 4) (nI n) i = _ ∧ va_up (h 22) (gN A 4) v i = _
          by_cases e : i = gN A 4
          · subst e
            rw [va_up_self, va_up_self, va_up_ne _ _ (show 98 + 2 * gN A 4 ≠ 4 by omega), va_up_ne _ _ (show 98 + 2 * gN A 4 ≠ 98 + 2 * gN A 4 + 1 by omega), va_up_self, va_up_ne _ _ (show 98 + 2 * gN A 4 + 1 ≠ 4 by omega), va_up_self]
            exact ⟨rfl, rfl⟩
          · rw [va_up_ne _ _ e, va_up_ne _ _ e, u3p (by omega) (by omega) (by omega), u3p (by omega) (by omega) (by omega)]
            exact pa.2 i (by omega)⟩)) (Or.inl ⟨rfl, (u3p (by omega) (by omega) (by omega)), (same3 (by omega) (by omega) (by omega))⟩) (Or.inl ⟨rfl, (u3p (by omega) (by omega) (by omega)), (same3 (by omega) (by omega) (by omega))⟩) (Or.inl ⟨rfl, (u3p (by omega) (by omega) (by omega)), (same3 (by omega) (by omega) (by omega))⟩) (Or.inl ⟨rfl, (same3 (by omega) (by omega) (by omega))⟩) (H.2.2.2.1.2.2.2.2.2.2.1.trans (u3p (by omega) (by omega) (by omega)).symm) (H.2.2.2.1.2.2.2.2.2.2.2.trans (u3p (by omega) (by omega) (by omega)).symm)
        have C := c_tell_T_20 (L := L) (t := t) (lt := lt) (rt := rt) (rp := rp) (sw := sw) (h := h) (gl := gl) n (gN A 4) v hn hv.2.1 (pa.1.trans ek) hk
        have C2 : avE 2 137 [.ref 7, .int (nI n), .int v] (sX L t lt rt rp sw h gl) (some (.int (nI (gN A 4 + 1))), sX L t lt rt rp sw (mvPut (mvPut (mvPut h 21 (gN A 4) (nI n)) 22 (gN A 4) v) 20 2 (nI (gN A 4 + 1))) gl) := by
          show avA _ 137 0 [.ref 7, .int (nI (n)), .int (v)] [] _ _
          refine a_aload_0 rfl rfl ?_
          refine a_getr rfl rfl rfl (fun _ _ _ => rfl) rfl ?_
          refine a_getr rfl rfl rfl (fun _ _ _ => rfl) rfl ?_
          refine a_iload_1 rfl rfl ?_
          refine a_iload_2 rfl rfl ?_
          refine a_virtI rfl rfl (C) (Nat.le_of_ble_eq_true rfl) ⟨rfl, rfl, rfl, rfl⟩ rfl rfl rfl (Nat.le_of_ble_eq_true rfl) rfl rfl ?_
          exact a_iret rfl rfl
        exact ⟨_, lt, R, sw, C2, CF_mono (by decide) cf, CI_gen H cf rfl rfl ok (u3p (by omega) (by omega) (by omega)) hr (LI_cf (LI_same (fun i h1 h2 => u3p (by omega) (by omega) (by omega)) (u3p (by omega) (by omega) (by omega)) H.2.2.2.2.2.2) rfl cf), by omega, by omega⟩
      · intro L t lt rt rp sw h gl ok H
        have C := r_behind_T_20 (L := L) (t := t) (lt := lt) (rt := rt) (rp := rp) (sw := sw) (h := h) (gl := gl) n (gN A 4) v hn hv.2.1 (by rw [H.1]; exact ek) hk
        have C2 : avE 3 294 [.ref 81, .int (nI n), .int v] (sX L t lt rt rp sw h gl) (some (.int (nI (gN A 4 + 1))), sX L t lt rt rp sw (mvPut (mvPut (mvPut h 82 (98 + 2 * gN A 4) (nI n)) 82 (98 + 2 * gN A 4 + 1) v) 82 4 (nI (gN A 4 + 1))) gl) := by
          show avA _ 294 0 [.ref 81, .int (nI (n)), .int (v)] [] _ _
          refine a_aload_0 rfl rfl ?_
          refine a_bipush (v := (nI 98)) rfl rfl rfl ?_
          refine a_iconst (v := (nI 4)) rfl rfl rfl ?_
          refine a_iload_1 rfl rfl ?_
          refine a_iload_2 rfl rfl ?_
          refine a_virtI rfl rfl (C) (Nat.le_of_ble_eq_true rfl) ⟨rfl, rfl, rfl, rfl⟩ rfl rfl rfl (Nat.le_of_ble_eq_true rfl) rfl rfl ?_
          exact a_iret rfl rfl
        refine ⟨_, gl, C2, CF_put (CF_put (CF_put CF_refl rfl) rfl) rfl, fun _ _ => rfl, RI_up H ?_ rfl rfl rfl (u3p (by omega) (by omega) (by omega))⟩
        show va_up (va_up (va_up (h 82) (98 + 2 * gN A 4) (nI n)) (98 + 2 * gN A 4 + 1) v) 4 (nI (gN A 4 + 1)) = _
        rw [H.1]
    · refine ⟨-2, A, ?_, ?_, hA, rfl⟩
      · intro L t lt rt rp sw h gl R H hR
        have pa : PA 20 A 98 4 h := H.2.2.2.1.2.2.2.2.1.1
        have C := c_tell_F_20 (L := L) (t := t) (lt := lt) (rt := rt) (rp := rp) (sw := sw) (h := h) (gl := gl) c v (gN A 4) hz (pa.1.trans ek) hk6 hv
        have C2 : avE 2 137 [.ref 7, .int c, .int v] (sX L t lt rt rp sw h gl) (some (.int (-2)), sX L t lt rt rp sw h gl) := by
          show avA _ 137 0 [.ref 7, .int (c), .int (v)] [] _ _
          refine a_aload_0 rfl rfl ?_
          refine a_getr rfl rfl rfl (fun _ _ _ => rfl) rfl ?_
          refine a_getr rfl rfl rfl (fun _ _ _ => rfl) rfl ?_
          refine a_iload_1 rfl rfl ?_
          refine a_iload_2 rfl rfl ?_
          refine a_virtI rfl rfl (C) (Nat.le_of_ble_eq_true rfl) ⟨rfl, rfl, rfl, rfl⟩ rfl rfl rfl (Nat.le_of_ble_eq_true rfl) rfl rfl ?_
          exact a_iret rfl rfl
        exact ⟨h, lt, R, sw, C2, CF_refl, H, by omega, by omega⟩
      · intro L t lt rt rp sw h gl ok H
        have C := r_behind_F_20 (L := L) (t := t) (lt := lt) (rt := rt) (rp := rp) (sw := sw) (h := h) (gl := gl) c v (gN A 4) hz (by rw [H.1]; exact ek) hk6 hv
        have C2 : avE 3 294 [.ref 81, .int c, .int v] (sX L t lt rt rp sw h gl) (some (.int (-2)), sX L t lt rt rp sw h gl) := by
          show avA _ 294 0 [.ref 81, .int (c), .int (v)] [] _ _
          refine a_aload_0 rfl rfl ?_
          refine a_bipush (v := (nI 98)) rfl rfl rfl ?_
          refine a_iconst (v := (nI 4)) rfl rfl rfl ?_
          refine a_iload_1 rfl rfl ?_
          refine a_iload_2 rfl rfl ?_
          refine a_virtI rfl rfl (C) (Nat.le_of_ble_eq_true rfl) ⟨rfl, rfl, rfl, rfl⟩ rfl rfl rfl (Nat.le_of_ble_eq_true rfl) rfl rfl ?_
          exact a_iret rfl rfl
        exact ⟨h, gl, C2, CF_refl, fun _ _ => rfl, H⟩
theorem p_dark (hA : okA A) (c v : Int32) : ∃ r A', opP 0 2 139 [.ref 7, .int c, .int v] 3 296 [.ref 81, .int c, .int v] TX A B r A' B := by
  have hk6 := gN_le (m := 6) hA.1 (i := 5) (by omega) (by decide)
  have ek : A 5 = nI (gN A 5) := gN_eq hA.1 (by omega) (by decide)
  by_cases hz : c = -1
  · subst hz
    have ok : okA (va_up A 5 (nI 0)) := okA_up hA (by omega) (by omega) (by omega) (inB_nI (m := 6) rfl (by omega) (by omega))
    refine ⟨nI 0, va_up A 5 (nI 0), ?_, ?_, ok, gN_c (va_up_ne _ _ (by omega))⟩
    · intro L t lt rt rp sw h gl R H hR
      have cf : CF [23] h (mvPut h 23 2 (nI 0)) := CF_put CF_refl rfl
      have hr : HR 11 (va_up A 5 (nI 0)) (mvPut h 23 2 (nI 0)) := HR_gen (S := [23]) H.1.1 H.2.2.2.1 cf (Or.inl ⟨rfl, (same_up (by omega))⟩) (Or.inl ⟨rfl, (va_up_ne _ _ (by omega)), (same_up (by omega)), (same_up (by omega))⟩) (Or.inl ⟨rfl, (va_up_ne _ _ (by omega)), (same_up (by omega))⟩) (Or.inl ⟨rfl, (va_up_ne _ _ (by omega)), (same_up (by omega))⟩) (Or.inl ⟨rfl, (va_up_ne _ _ (by omega)), (same_up (by omega))⟩) (Or.inr (⟨rfl, fun i hi => absurd hi (by rw [gN_nI (va_up_self A 5 (nI 0)) (by omega)]; omega)⟩)) (Or.inl ⟨rfl, (va_up_ne _ _ (by omega)), (same_up (by omega))⟩) (Or.inl ⟨rfl, (va_up_ne _ _ (by omega)), (same_up (by omega))⟩) (Or.inl ⟨rfl, (same_up (by omega))⟩) (H.2.2.2.1.2.2.2.2.2.2.1.trans (va_up_ne _ _ (by omega)).symm) (H.2.2.2.1.2.2.2.2.2.2.2.trans (va_up_ne _ _ (by omega)).symm)
      have C := c_tell_Z_23 (L := L) (t := t) (lt := lt) (rt := rt) (rp := rp) (sw := sw) (h := h) (gl := gl) v
      have C2 : avE 2 139 [.ref 7, .int (-1), .int v] (sX L t lt rt rp sw h gl) (some (.int (nI 0)), sX L t lt rt rp sw (mvPut h 23 2 (nI 0)) gl) := by
        show avA _ 139 0 [.ref 7, .int (-1), .int (v)] [] _ _
        refine a_aload_0 rfl rfl ?_
        refine a_getr rfl rfl rfl (fun _ _ _ => rfl) rfl ?_
        refine a_getr rfl rfl rfl (fun _ _ _ => rfl) rfl ?_
        refine a_iload_1 rfl rfl ?_
        refine a_iload_2 rfl rfl ?_
        refine a_virtI rfl rfl (C) (Nat.le_of_ble_eq_true rfl) ⟨rfl, rfl, rfl, rfl⟩ rfl rfl rfl (Nat.le_of_ble_eq_true rfl) rfl rfl ?_
        exact a_iret rfl rfl
      exact ⟨_, lt, R, sw, C2, CF_mono (by decide) cf, CI_gen H cf rfl rfl ok (va_up_ne _ _ (by omega)) hr (LI_cf (LI_same (fun i h1 h2 => va_up_ne _ _ (by omega)) (va_up_ne _ _ (by omega)) H.2.2.2.2.2.2) rfl cf), by omega, by omega⟩
    · intro L t lt rt rp sw h gl ok H
      have C := r_behind_Z_23 (L := L) (t := t) (lt := lt) (rt := rt) (rp := rp) (sw := sw) (h := h) (gl := gl) v
      have C2 : avE 3 296 [.ref 81, .int (-1), .int v] (sX L t lt rt rp sw h gl) (some (.int (nI 0)), sX L t lt rt rp sw (mvPut h 82 5 (nI 0)) gl) := by
        show avA _ 296 0 [.ref 81, .int (-1), .int (v)] [] _ _
        refine a_aload_0 rfl rfl ?_
        refine a_bipush (v := (nI 110)) rfl rfl rfl ?_
        refine a_iconst (v := (nI 5)) rfl rfl rfl ?_
        refine a_iload_1 rfl rfl ?_
        refine a_iload_2 rfl rfl ?_
        refine a_virtI rfl rfl (C) (Nat.le_of_ble_eq_true rfl) ⟨rfl, rfl, rfl, rfl⟩ rfl rfl rfl (Nat.le_of_ble_eq_true rfl) rfl rfl ?_
        exact a_iret rfl rfl
      refine ⟨_, gl, C2, CF_put CF_refl rfl, fun _ _ => rfl, RI_up H ?_ rfl rfl rfl (va_up_ne _ _ (by omega))⟩
      show va_up (h 82) 5 (nI 0) = _
      rw [H.1]
  · by_cases hv : prP c v (gN A 5) 6
    · obtain ⟨n, hn, rfl⟩ := inC_of hv.1
      have hk := hv.2.2
      have b1 : bnd (110 + 2 * gN A 5) = (0, 29) := bd_pair (m := 0) (by omega) (by omega)
      have b2 : bnd (110 + 2 * gN A 5 + 1) = (0, 15) := bd_pair1 (m := 0) (by omega) (by omega)
      have ok : okA (va_up (va_up (va_up A (110 + 2 * gN A 5) (nI n)) (110 + 2 * gN A 5 + 1) v) 5 (nI (gN A 5 + 1))) := okA_up (okA_up (okA_up hA (by omega) (by omega) (by omega) (inB_nI (m := 29) b1 (by omega) (by omega))) (by omega) (by omega) (by omega) (by unfold inB; rw [b2]; exact hv.2.1)) (by omega) (by omega) (by omega) (inB_nI (m := 6) rfl (by omega) (by omega))
      refine ⟨nI (gN A 5 + 1), va_up (va_up (va_up A (110 + 2 * gN A 5) (nI n)) (110 + 2 * gN A 5 + 1) v) 5 (nI (gN A 5 + 1)), ?_, ?_, ok, gN_c (u3p (by omega) (by omega) (by omega))⟩
      · intro L t lt rt rp sw h gl R H hR
        have pa : PA 23 A 110 5 h := H.2.2.2.1.2.2.2.2.1.2.1
        have cf : CF [23, 24, 25] h (mvPut (mvPut (mvPut h 24 (gN A 5) (nI n)) 25 (gN A 5) v) 23 2 (nI (gN A 5 + 1))) := CF_put (CF_put (CF_put CF_refl rfl) rfl) rfl
        have hr : HR 11 (va_up (va_up (va_up A (110 + 2 * gN A 5) (nI n)) (110 + 2 * gN A 5 + 1) v) 5 (nI (gN A 5 + 1))) (mvPut (mvPut (mvPut h 24 (gN A 5) (nI n)) 25 (gN A 5) v) 23 2 (nI (gN A 5 + 1))) := HR_gen (S := [23, 24, 25]) H.1.1 H.2.2.2.1 cf (Or.inl ⟨rfl, (same3 (by omega) (by omega) (by omega))⟩) (Or.inl ⟨rfl, (u3p (by omega) (by omega) (by omega)), (same3 (by omega) (by omega) (by omega)), (same3 (by omega) (by omega) (by omega))⟩) (Or.inl ⟨rfl, (u3p (by omega) (by omega) (by omega)), (same3 (by omega) (by omega) (by omega))⟩) (Or.inl ⟨rfl, (u3p (by omega) (by omega) (by omega)), (same3 (by omega) (by omega) (by omega))⟩) (Or.inl ⟨rfl, (u3p (by omega) (by omega) (by omega)), (same3 (by omega) (by omega) (by omega))⟩) (Or.inr (⟨rfl, fun i hi => by
          rw [gN_nI (va_up_self (va_up (va_up A (110 + 2 * gN A 5) (nI n)) (110 + 2 * gN A 5 + 1) v) 5 (nI (gN A 5 + 1))) (by omega)] at hi
          show va_up (h 24) (gN A 5) (nI n) i = _ ∧ va_up (h 25) (gN A 5) v i = _
          by_cases e : i = gN A 5
          · subst e
            rw [va_up_self, va_up_self, va_up_ne _ _ (show 110 + 2 * gN A 5 ≠ 5 by omega), va_up_ne _ _ (show 110 + 2 * gN A 5 ≠ 110 + 2 * gN A 5 + 1 by omega), va_up_self, va_up_ne _ _ (show 110 + 2 * gN A 5 + 1 ≠ 5 by omega), va_up_self]
            exact ⟨rfl, rfl⟩
          · rw [va_up_ne _ _ e, va_up_ne _ _ e, u3p (by omega) (by omega) (by omega), u3p (by omega) (by omega) (by omega)]
            exact pa.2 i (by omega)⟩)) (Or.inl ⟨rfl, (u3p (by omega) (by omega) (by omega)), (same3 (by omega) (by omega) (by omega))⟩) (Or.inl ⟨rfl, (u3p (by omega) (by omega) (by omega)), (same3 (by omega) (by omega) (by omega))⟩) (Or.inl ⟨rfl, (same3 (by omega) (by omega) (by omega))⟩) (H.2.2.2.1.2.2.2.2.2.2.1.trans (u3p (by omega) (by omega) (by omega)).symm) (H.2.2.2.1.2.2.2.2.2.2.2.trans (u3p (by omega) (by omega) (by omega)).symm)
        have C := c_tell_T_23 (L := L) (t := t) (lt := lt) (rt := rt) (rp := rp) (sw := sw) (h := h) (gl := gl) n (gN A 5) v hn hv.2.1 (pa.1.trans ek) hk
        have C2 : avE 2 139 [.ref 7, .int (nI n), .int v] (sX L t lt rt rp sw h gl) (some (.int (nI (gN A 5 + 1))), sX L t lt rt rp sw (mvPut (mvPut (mvPut h 24 (gN A 5) (nI n)) 25 (gN A 5) v) 23 2 (nI (gN A 5 + 1))) gl) := by
          show avA _ 139 0 [.ref 7, .int (nI (n)), .int (v)] [] _ _
          refine a_aload_0 rfl rfl ?_
          refine a_getr rfl rfl rfl (fun _ _ _ => rfl) rfl ?_
          refine a_getr rfl rfl rfl (fun _ _ _ => rfl) rfl ?_
          refine a_iload_1 rfl rfl ?_
          refine a_iload_2 rfl rfl ?_
          refine a_virtI rfl rfl (C) (Nat.le_of_ble_eq_true rfl) ⟨rfl, rfl, rfl, rfl⟩ rfl rfl rfl (Nat.le_of_ble_eq_true rfl) rfl rfl ?_
          exact a_iret rfl rfl
        exact ⟨_, lt, R, sw, C2, CF_mono (by decide) cf, CI_gen H cf rfl rfl ok (u3p (by omega) (by omega) (by omega)) hr (LI_cf (LI_same (fun i h1 h2 => u3p (by omega) (by omega) (by omega)) (u3p (by omega) (by omega) (by omega)) H.2.2.2.2.2.2) rfl cf), by omega, by omega⟩
      · intro L t lt rt rp sw h gl ok H
        have C := r_behind_T_23 (L := L) (t := t) (lt := lt) (rt := rt) (rp := rp) (sw := sw) (h := h) (gl := gl) n (gN A 5) v hn hv.2.1 (by rw [H.1]; exact ek) hk
        have C2 : avE 3 296 [.ref 81, .int (nI n), .int v] (sX L t lt rt rp sw h gl) (some (.int (nI (gN A 5 + 1))), sX L t lt rt rp sw (mvPut (mvPut (mvPut h 82 (110 + 2 * gN A 5) (nI n)) 82 (110 + 2 * gN A 5 + 1) v) 82 5 (nI (gN A 5 + 1))) gl) := by
          show avA _ 296 0 [.ref 81, .int (nI (n)), .int (v)] [] _ _
          refine a_aload_0 rfl rfl ?_
          refine a_bipush (v := (nI 110)) rfl rfl rfl ?_
          refine a_iconst (v := (nI 5)) rfl rfl rfl ?_
          refine a_iload_1 rfl rfl ?_
          refine a_iload_2 rfl rfl ?_
          refine a_virtI rfl rfl (C) (Nat.le_of_ble_eq_true rfl) ⟨rfl, rfl, rfl, rfl⟩ rfl rfl rfl (Nat.le_of_ble_eq_true rfl) rfl rfl ?_
          exact a_iret rfl rfl
        refine ⟨_, gl, C2, CF_put (CF_put (CF_put CF_refl rfl) rfl) rfl, fun _ _ => rfl, RI_up H ?_ rfl rfl rfl (u3p (by omega) (by omega) (by omega))⟩
        show va_up (va_up (va_up (h 82) (110 + 2 * gN A 5) (nI n)) (110 + 2 * gN A 5 + 1) v) 5 (nI (gN A 5 + 1)) = _
        rw [H.1]
    · refine ⟨-2, A, ?_, ?_, hA, rfl⟩
      · intro L t lt rt rp sw h gl R H hR
        have pa : PA 23 A 110 5 h := H.2.2.2.1.2.2.2.2.1.2.1
        have C := c_tell_F_23 (L := L) (t := t) (lt := lt) (rt := rt) (rp := rp) (sw := sw) (h := h) (gl := gl) c v (gN A 5) hz (pa.1.trans ek) hk6 hv
        have C2 : avE 2 139 [.ref 7, .int c, .int v] (sX L t lt rt rp sw h gl) (some (.int (-2)), sX L t lt rt rp sw h gl) := by
          show avA _ 139 0 [.ref 7, .int (c), .int (v)] [] _ _
          refine a_aload_0 rfl rfl ?_
          refine a_getr rfl rfl rfl (fun _ _ _ => rfl) rfl ?_
          refine a_getr rfl rfl rfl (fun _ _ _ => rfl) rfl ?_
          refine a_iload_1 rfl rfl ?_
          refine a_iload_2 rfl rfl ?_
          refine a_virtI rfl rfl (C) (Nat.le_of_ble_eq_true rfl) ⟨rfl, rfl, rfl, rfl⟩ rfl rfl rfl (Nat.le_of_ble_eq_true rfl) rfl rfl ?_
          exact a_iret rfl rfl
        exact ⟨h, lt, R, sw, C2, CF_refl, H, by omega, by omega⟩
      · intro L t lt rt rp sw h gl ok H
        have C := r_behind_F_23 (L := L) (t := t) (lt := lt) (rt := rt) (rp := rp) (sw := sw) (h := h) (gl := gl) c v (gN A 5) hz (by rw [H.1]; exact ek) hk6 hv
        have C2 : avE 3 296 [.ref 81, .int c, .int v] (sX L t lt rt rp sw h gl) (some (.int (-2)), sX L t lt rt rp sw h gl) := by
          show avA _ 296 0 [.ref 81, .int (c), .int (v)] [] _ _
          refine a_aload_0 rfl rfl ?_
          refine a_bipush (v := (nI 110)) rfl rfl rfl ?_
          refine a_iconst (v := (nI 5)) rfl rfl rfl ?_
          refine a_iload_1 rfl rfl ?_
          refine a_iload_2 rfl rfl ?_
          refine a_virtI rfl rfl (C) (Nat.le_of_ble_eq_true rfl) ⟨rfl, rfl, rfl, rfl⟩ rfl rfl rfl (Nat.le_of_ble_eq_true rfl) rfl rfl ?_
          exact a_iret rfl rfl
        exact ⟨h, gl, C2, CF_refl, fun _ _ => rfl, H⟩
theorem p_seen (hA : okA A) (c v : Int32) : ∃ r A', opP 0 2 145 [.ref 7, .int c, .int v] 3 303 [.ref 81, .int c, .int v] TX A B r A' B := by
  have hk6 := gN_le (m := 8) hA.1 (i := 6) (by omega) (by decide)
  have ek : A 6 = nI (gN A 6) := gN_eq hA.1 (by omega) (by decide)
  by_cases hz : c = -1
  · subst hz
    have ok : okA (va_up A 6 (nI 0)) := okA_up hA (by omega) (by omega) (by omega) (inB_nI (m := 8) rfl (by omega) (by omega))
    refine ⟨nI 0, va_up A 6 (nI 0), ?_, ?_, ok, gN_c (va_up_ne _ _ (by omega))⟩
    · intro L t lt rt rp sw h gl R H hR
      have cf : CF [26] h (mvPut h 26 2 (nI 0)) := CF_put CF_refl rfl
      have hr : HR 11 (va_up A 6 (nI 0)) (mvPut h 26 2 (nI 0)) := HR_gen (S := [26]) H.1.1 H.2.2.2.1 cf (Or.inl ⟨rfl, (same_up (by omega))⟩) (Or.inl ⟨rfl, (va_up_ne _ _ (by omega)), (same_up (by omega)), (same_up (by omega))⟩) (Or.inl ⟨rfl, (va_up_ne _ _ (by omega)), (same_up (by omega))⟩) (Or.inl ⟨rfl, (va_up_ne _ _ (by omega)), (same_up (by omega))⟩) (Or.inl ⟨rfl, (va_up_ne _ _ (by omega)), (same_up (by omega))⟩) (Or.inl ⟨rfl, (va_up_ne _ _ (by omega)), (same_up (by omega))⟩) (Or.inr (⟨rfl, fun i hi => absurd hi (by rw [gN_nI (va_up_self A 6 (nI 0)) (by omega)]; omega)⟩)) (Or.inl ⟨rfl, (va_up_ne _ _ (by omega)), (same_up (by omega))⟩) (Or.inl ⟨rfl, (same_up (by omega))⟩) (H.2.2.2.1.2.2.2.2.2.2.1.trans (va_up_ne _ _ (by omega)).symm) (H.2.2.2.1.2.2.2.2.2.2.2.trans (va_up_ne _ _ (by omega)).symm)
      have C := c_tell_Z_26 (L := L) (t := t) (lt := lt) (rt := rt) (rp := rp) (sw := sw) (h := h) (gl := gl) v
      have C2 : avE 2 145 [.ref 7, .int (-1), .int v] (sX L t lt rt rp sw h gl) (some (.int (nI 0)), sX L t lt rt rp sw (mvPut h 26 2 (nI 0)) gl) := by
        show avA _ 145 0 [.ref 7, .int (-1), .int (v)] [] _ _
        refine a_aload_0 rfl rfl ?_
        refine a_getr rfl rfl rfl (fun _ _ _ => rfl) rfl ?_
        refine a_getr rfl rfl rfl (fun _ _ _ => rfl) rfl ?_
        refine a_iload_1 rfl rfl ?_
        refine a_iload_2 rfl rfl ?_
        refine a_virtI rfl rfl (C) (Nat.le_of_ble_eq_true rfl) ⟨rfl, rfl, rfl, rfl⟩ rfl rfl rfl (Nat.le_of_ble_eq_true rfl) rfl rfl ?_
        exact a_iret rfl rfl
      exact ⟨_, lt, R, sw, C2, CF_mono (by decide) cf, CI_gen H cf rfl rfl ok (va_up_ne _ _ (by omega)) hr (LI_cf (LI_same (fun i h1 h2 => va_up_ne _ _ (by omega)) (va_up_ne _ _ (by omega)) H.2.2.2.2.2.2) rfl cf), by omega, by omega⟩
    · intro L t lt rt rp sw h gl ok H
      have C := r_behind_Z_26 (L := L) (t := t) (lt := lt) (rt := rt) (rp := rp) (sw := sw) (h := h) (gl := gl) v
      have C2 : avE 3 303 [.ref 81, .int (-1), .int v] (sX L t lt rt rp sw h gl) (some (.int (nI 0)), sX L t lt rt rp sw (mvPut h 82 6 (nI 0)) gl) := by
        show avA _ 303 0 [.ref 81, .int (-1), .int (v)] [] _ _
        refine a_aload_0 rfl rfl ?_
        refine a_bipush (v := (nI 122)) rfl rfl rfl ?_
        refine a_bipush (v := (nI 6)) rfl rfl rfl ?_
        refine a_iload_1 rfl rfl ?_
        refine a_iload_2 rfl rfl ?_
        refine a_virtI rfl rfl (C) (Nat.le_of_ble_eq_true rfl) ⟨rfl, rfl, rfl, rfl⟩ rfl rfl rfl (Nat.le_of_ble_eq_true rfl) rfl rfl ?_
        exact a_iret rfl rfl
      refine ⟨_, gl, C2, CF_put CF_refl rfl, fun _ _ => rfl, RI_up H ?_ rfl rfl rfl (va_up_ne _ _ (by omega))⟩
      show va_up (h 82) 6 (nI 0) = _
      rw [H.1]
  · by_cases hv : prP c v (gN A 6) 8
    · obtain ⟨n, hn, rfl⟩ := inC_of hv.1
      have hk := hv.2.2
      have b1 : bnd (122 + 2 * gN A 6) = (0, 29) := bd_pair (m := 0) (by omega) (by omega)
      have b2 : bnd (122 + 2 * gN A 6 + 1) = (0, 15) := bd_pair1 (m := 0) (by omega) (by omega)
      have ok : okA (va_up (va_up (va_up A (122 + 2 * gN A 6) (nI n)) (122 + 2 * gN A 6 + 1) v) 6 (nI (gN A 6 + 1))) := okA_up (okA_up (okA_up hA (by omega) (by omega) (by omega) (inB_nI (m := 29) b1 (by omega) (by omega))) (by omega) (by omega) (by omega) (by unfold inB; rw [b2]; exact hv.2.1)) (by omega) (by omega) (by omega) (inB_nI (m := 8) rfl (by omega) (by omega))
      refine ⟨nI (gN A 6 + 1), va_up (va_up (va_up A (122 + 2 * gN A 6) (nI n)) (122 + 2 * gN A 6 + 1) v) 6 (nI (gN A 6 + 1)), ?_, ?_, ok, gN_c (u3p (by omega) (by omega) (by omega))⟩
      · intro L t lt rt rp sw h gl R H hR
        have pa : PA 26 A 122 6 h := H.2.2.2.1.2.2.2.2.1.2.2.1
        have cf : CF [26, 27, 28] h (mvPut (mvPut (mvPut h 27 (gN A 6) (nI n)) 28 (gN A 6) v) 26 2 (nI (gN A 6 + 1))) := CF_put (CF_put (CF_put CF_refl rfl) rfl) rfl
        have hr : HR 11 (va_up (va_up (va_up A (122 + 2 * gN A 6) (nI n)) (122 + 2 * gN A 6 + 1) v) 6 (nI (gN A 6 + 1))) (mvPut (mvPut (mvPut h 27 (gN A 6) (nI n)) 28 (gN A 6) v) 26 2 (nI (gN A 6 + 1))) := HR_gen (S := [26, 27, 28]) H.1.1 H.2.2.2.1 cf (Or.inl ⟨rfl, (same3 (by omega) (by omega) (by omega))⟩) (Or.inl ⟨rfl, (u3p (by omega) (by omega) (by omega)), (same3 (by omega) (by omega) (by omega)), (same3 (by omega) (by omega) (by omega))⟩) (Or.inl ⟨rfl, (u3p (by omega) (by omega) (by omega)), (same3 (by omega) (by omega) (by omega))⟩) (Or.inl ⟨rfl, (u3p (by omega) (by omega) (by omega)), (same3 (by omega) (by omega) (by omega))⟩) (Or.inl ⟨rfl, (u3p (by omega) (by omega) (by omega)), (same3 (by omega) (by omega) (by omega))⟩) (Or.inl ⟨rfl, (u3p (by omega) (by omega) (by omega)), (same3 (by omega) (by omega) (by omega))⟩) (Or.inr (⟨rfl, fun i hi => by
          rw [gN_nI (va_up_self (va_up (va_up A (122 + 2 * gN A 6) (nI n)) (122 + 2 * gN A 6 + 1) v) 6 (nI (gN A 6 + 1))) (by omega)] at hi
          show va_up (h 27) (gN A 6) (nI n) i = _ ∧ va_up (h 28) (gN A 6) v i = _
          by_cases e : i = gN A 6
          · subst e
            rw [va_up_self, va_up_self, va_up_ne _ _ (show 122 + 2 * gN A 6 ≠ 6 by omega), va_up_ne _ _ (show 122 + 2 * gN A 6 ≠ 122 + 2 * gN A 6 + 1 by omega), va_up_self, va_up_ne _ _ (show 122 + 2 * gN A 6 + 1 ≠ 6 by omega), va_up_self]
            exact ⟨rfl, rfl⟩
          · rw [va_up_ne _ _ e, va_up_ne _ _ e, u3p (by omega) (by omega) (by omega), u3p (by omega) (by omega) (by omega)]
            exact pa.2 i (by omega)⟩)) (Or.inl ⟨rfl, (u3p (by omega) (by omega) (by omega)), (same3 (by omega) (by omega) (by omega))⟩) (Or.inl ⟨rfl, (same3 (by omega) (by omega) (by omega))⟩) (H.2.2.2.1.2.2.2.2.2.2.1.trans (u3p (by omega) (by omega) (by omega)).symm) (H.2.2.2.1.2.2.2.2.2.2.2.trans (u3p (by omega) (by omega) (by omega)).symm)
        have C := c_tell_T_26 (L := L) (t := t) (lt := lt) (rt := rt) (rp := rp) (sw := sw) (h := h) (gl := gl) n (gN A 6) v hn hv.2.1 (pa.1.trans ek) hk
        have C2 : avE 2 145 [.ref 7, .int (nI n), .int v] (sX L t lt rt rp sw h gl) (some (.int (nI (gN A 6 + 1))), sX L t lt rt rp sw (mvPut (mvPut (mvPut h 27 (gN A 6) (nI n)) 28 (gN A 6) v) 26 2 (nI (gN A 6 + 1))) gl) := by
          show avA _ 145 0 [.ref 7, .int (nI (n)), .int (v)] [] _ _
          refine a_aload_0 rfl rfl ?_
          refine a_getr rfl rfl rfl (fun _ _ _ => rfl) rfl ?_
          refine a_getr rfl rfl rfl (fun _ _ _ => rfl) rfl ?_
          refine a_iload_1 rfl rfl ?_
          refine a_iload_2 rfl rfl ?_
          refine a_virtI rfl rfl (C) (Nat.le_of_ble_eq_true rfl) ⟨rfl, rfl, rfl, rfl⟩ rfl rfl rfl (Nat.le_of_ble_eq_true rfl) rfl rfl ?_
          exact a_iret rfl rfl
        exact ⟨_, lt, R, sw, C2, CF_mono (by decide) cf, CI_gen H cf rfl rfl ok (u3p (by omega) (by omega) (by omega)) hr (LI_cf (LI_same (fun i h1 h2 => u3p (by omega) (by omega) (by omega)) (u3p (by omega) (by omega) (by omega)) H.2.2.2.2.2.2) rfl cf), by omega, by omega⟩
      · intro L t lt rt rp sw h gl ok H
        have C := r_behind_T_26 (L := L) (t := t) (lt := lt) (rt := rt) (rp := rp) (sw := sw) (h := h) (gl := gl) n (gN A 6) v hn hv.2.1 (by rw [H.1]; exact ek) hk
        have C2 : avE 3 303 [.ref 81, .int (nI n), .int v] (sX L t lt rt rp sw h gl) (some (.int (nI (gN A 6 + 1))), sX L t lt rt rp sw (mvPut (mvPut (mvPut h 82 (122 + 2 * gN A 6) (nI n)) 82 (122 + 2 * gN A 6 + 1) v) 82 6 (nI (gN A 6 + 1))) gl) := by
          show avA _ 303 0 [.ref 81, .int (nI (n)), .int (v)] [] _ _
          refine a_aload_0 rfl rfl ?_
          refine a_bipush (v := (nI 122)) rfl rfl rfl ?_
          refine a_bipush (v := (nI 6)) rfl rfl rfl ?_
          refine a_iload_1 rfl rfl ?_
          refine a_iload_2 rfl rfl ?_
          refine a_virtI rfl rfl (C) (Nat.le_of_ble_eq_true rfl) ⟨rfl, rfl, rfl, rfl⟩ rfl rfl rfl (Nat.le_of_ble_eq_true rfl) rfl rfl ?_
          exact a_iret rfl rfl
        refine ⟨_, gl, C2, CF_put (CF_put (CF_put CF_refl rfl) rfl) rfl, fun _ _ => rfl, RI_up H ?_ rfl rfl rfl (u3p (by omega) (by omega) (by omega))⟩
        show va_up (va_up (va_up (h 82) (122 + 2 * gN A 6) (nI n)) (122 + 2 * gN A 6 + 1) v) 6 (nI (gN A 6 + 1)) = _
        rw [H.1]
    · refine ⟨-2, A, ?_, ?_, hA, rfl⟩
      · intro L t lt rt rp sw h gl R H hR
        have pa : PA 26 A 122 6 h := H.2.2.2.1.2.2.2.2.1.2.2.1
        have C := c_tell_F_26 (L := L) (t := t) (lt := lt) (rt := rt) (rp := rp) (sw := sw) (h := h) (gl := gl) c v (gN A 6) hz (pa.1.trans ek) hk6 hv
        have C2 : avE 2 145 [.ref 7, .int c, .int v] (sX L t lt rt rp sw h gl) (some (.int (-2)), sX L t lt rt rp sw h gl) := by
          show avA _ 145 0 [.ref 7, .int (c), .int (v)] [] _ _
          refine a_aload_0 rfl rfl ?_
          refine a_getr rfl rfl rfl (fun _ _ _ => rfl) rfl ?_
          refine a_getr rfl rfl rfl (fun _ _ _ => rfl) rfl ?_
          refine a_iload_1 rfl rfl ?_
          refine a_iload_2 rfl rfl ?_
          refine a_virtI rfl rfl (C) (Nat.le_of_ble_eq_true rfl) ⟨rfl, rfl, rfl, rfl⟩ rfl rfl rfl (Nat.le_of_ble_eq_true rfl) rfl rfl ?_
          exact a_iret rfl rfl
        exact ⟨h, lt, R, sw, C2, CF_refl, H, by omega, by omega⟩
      · intro L t lt rt rp sw h gl ok H
        have C := r_behind_F_26 (L := L) (t := t) (lt := lt) (rt := rt) (rp := rp) (sw := sw) (h := h) (gl := gl) c v (gN A 6) hz (by rw [H.1]; exact ek) hk6 hv
        have C2 : avE 3 303 [.ref 81, .int c, .int v] (sX L t lt rt rp sw h gl) (some (.int (-2)), sX L t lt rt rp sw h gl) := by
          show avA _ 303 0 [.ref 81, .int (c), .int (v)] [] _ _
          refine a_aload_0 rfl rfl ?_
          refine a_bipush (v := (nI 122)) rfl rfl rfl ?_
          refine a_bipush (v := (nI 6)) rfl rfl rfl ?_
          refine a_iload_1 rfl rfl ?_
          refine a_iload_2 rfl rfl ?_
          refine a_virtI rfl rfl (C) (Nat.le_of_ble_eq_true rfl) ⟨rfl, rfl, rfl, rfl⟩ rfl rfl rfl (Nat.le_of_ble_eq_true rfl) rfl rfl ?_
          exact a_iret rfl rfl
        exact ⟨h, gl, C2, CF_refl, fun _ _ => rfl, H⟩
theorem p_read (hA : okA A) (c v : Int32) : ∃ r A', opP 0 2 168 [.ref 7, .int c, .int v] 3 318 [.ref 81, .int c, .int v] TX A B r A' B := by
  have hk6 := gN_le (m := 8) hA.1 (i := 7) (by omega) (by decide)
  have ek : A 7 = nI (gN A 7) := gN_eq hA.1 (by omega) (by decide)
  by_cases hz : c = -1
  · subst hz
    have ok : okA (va_up A 7 (nI 0)) := okA_up hA (by omega) (by omega) (by omega) (inB_nI (m := 8) rfl (by omega) (by omega))
    refine ⟨nI 0, va_up A 7 (nI 0), ?_, ?_, ok, gN_c (va_up_ne _ _ (by omega))⟩
    · intro L t lt rt rp sw h gl R H hR
      have cf : CF [29] h (mvPut h 29 2 (nI 0)) := CF_put CF_refl rfl
      have hr : HR 11 (va_up A 7 (nI 0)) (mvPut h 29 2 (nI 0)) := HR_gen (S := [29]) H.1.1 H.2.2.2.1 cf (Or.inl ⟨rfl, (same_up (by omega))⟩) (Or.inl ⟨rfl, (va_up_ne _ _ (by omega)), (same_up (by omega)), (same_up (by omega))⟩) (Or.inl ⟨rfl, (va_up_ne _ _ (by omega)), (same_up (by omega))⟩) (Or.inl ⟨rfl, (va_up_ne _ _ (by omega)), (same_up (by omega))⟩) (Or.inl ⟨rfl, (va_up_ne _ _ (by omega)), (same_up (by omega))⟩) (Or.inl ⟨rfl, (va_up_ne _ _ (by omega)), (same_up (by omega))⟩) (Or.inl ⟨rfl, (va_up_ne _ _ (by omega)), (same_up (by omega))⟩) (Or.inr (⟨rfl, fun i hi => absurd hi (by rw [gN_nI (va_up_self A 7 (nI 0)) (by omega)]; omega)⟩)) (Or.inl ⟨rfl, (same_up (by omega))⟩) (H.2.2.2.1.2.2.2.2.2.2.1.trans (va_up_ne _ _ (by omega)).symm) (H.2.2.2.1.2.2.2.2.2.2.2.trans (va_up_ne _ _ (by omega)).symm)
      have C := c_tell_Z_29 (L := L) (t := t) (lt := lt) (rt := rt) (rp := rp) (sw := sw) (h := h) (gl := gl) v
      have C2 : avE 2 168 [.ref 7, .int (-1), .int v] (sX L t lt rt rp sw h gl) (some (.int (nI 0)), sX L t lt rt rp sw (mvPut h 29 2 (nI 0)) gl) := by
        show avA _ 168 0 [.ref 7, .int (-1), .int (v)] [] _ _
        refine a_aload_0 rfl rfl ?_
        refine a_getr rfl rfl rfl (fun _ _ _ => rfl) rfl ?_
        refine a_getr rfl rfl rfl (fun _ _ _ => rfl) rfl ?_
        refine a_iload_1 rfl rfl ?_
        refine a_iload_2 rfl rfl ?_
        refine a_virtI rfl rfl (C) (Nat.le_of_ble_eq_true rfl) ⟨rfl, rfl, rfl, rfl⟩ rfl rfl rfl (Nat.le_of_ble_eq_true rfl) rfl rfl ?_
        exact a_iret rfl rfl
      exact ⟨_, lt, R, sw, C2, CF_mono (by decide) cf, CI_gen H cf rfl rfl ok (va_up_ne _ _ (by omega)) hr (LI_cf (LI_same (fun i h1 h2 => va_up_ne _ _ (by omega)) (va_up_ne _ _ (by omega)) H.2.2.2.2.2.2) rfl cf), by omega, by omega⟩
    · intro L t lt rt rp sw h gl ok H
      have C := r_behind_Z_29 (L := L) (t := t) (lt := lt) (rt := rt) (rp := rp) (sw := sw) (h := h) (gl := gl) v
      have C2 : avE 3 318 [.ref 81, .int (-1), .int v] (sX L t lt rt rp sw h gl) (some (.int (nI 0)), sX L t lt rt rp sw (mvPut h 82 7 (nI 0)) gl) := by
        show avA _ 318 0 [.ref 81, .int (-1), .int (v)] [] _ _
        refine a_aload_0 rfl rfl ?_
        refine a_sipush (v := (nI 150)) rfl rfl rfl ?_
        refine a_bipush (v := (nI 7)) rfl rfl rfl ?_
        refine a_iload_1 rfl rfl ?_
        refine a_iload_2 rfl rfl ?_
        refine a_virtI rfl rfl (C) (Nat.le_of_ble_eq_true rfl) ⟨rfl, rfl, rfl, rfl⟩ rfl rfl rfl (Nat.le_of_ble_eq_true rfl) rfl rfl ?_
        exact a_iret rfl rfl
      refine ⟨_, gl, C2, CF_put CF_refl rfl, fun _ _ => rfl, RI_up H ?_ rfl rfl rfl (va_up_ne _ _ (by omega))⟩
      show va_up (h 82) 7 (nI 0) = _
      rw [H.1]
  · by_cases hv : prP c v (gN A 7) 8
    · obtain ⟨n, hn, rfl⟩ := inC_of hv.1
      have hk := hv.2.2
      have b1 : bnd (150 + 2 * gN A 7) = (0, 29) := bd_pair (m := 0) (by omega) (by omega)
      have b2 : bnd (150 + 2 * gN A 7 + 1) = (0, 15) := bd_pair1 (m := 0) (by omega) (by omega)
      have ok : okA (va_up (va_up (va_up A (150 + 2 * gN A 7) (nI n)) (150 + 2 * gN A 7 + 1) v) 7 (nI (gN A 7 + 1))) := okA_up (okA_up (okA_up hA (by omega) (by omega) (by omega) (inB_nI (m := 29) b1 (by omega) (by omega))) (by omega) (by omega) (by omega) (by unfold inB; rw [b2]; exact hv.2.1)) (by omega) (by omega) (by omega) (inB_nI (m := 8) rfl (by omega) (by omega))
      refine ⟨nI (gN A 7 + 1), va_up (va_up (va_up A (150 + 2 * gN A 7) (nI n)) (150 + 2 * gN A 7 + 1) v) 7 (nI (gN A 7 + 1)), ?_, ?_, ok, gN_c (u3p (by omega) (by omega) (by omega))⟩
      · intro L t lt rt rp sw h gl R H hR
        have pa : PA 29 A 150 7 h := H.2.2.2.1.2.2.2.2.1.2.2.2
        have cf : CF [29, 30, 31] h (mvPut (mvPut (mvPut h 30 (gN A 7) (nI n)) 31 (gN A 7) v) 29 2 (nI (gN A 7 + 1))) := CF_put (CF_put (CF_put CF_refl rfl) rfl) rfl
        have hr : HR 11 (va_up (va_up (va_up A (150 + 2 * gN A 7) (nI n)) (150 + 2 * gN A 7 + 1) v) 7 (nI (gN A 7 + 1))) (mvPut (mvPut (mvPut h 30 (gN A 7) (nI n)) 31 (gN A 7) v) 29 2 (nI (gN A 7 + 1))) := HR_gen (S := [29, 30, 31]) H.1.1 H.2.2.2.1 cf (Or.inl ⟨rfl, (same3 (by omega) (by omega) (by omega))⟩) (Or.inl ⟨rfl, (u3p (by omega) (by omega) (by omega)), (same3 (by omega) (by omega) (by omega)), (same3 (by omega) (by omega) (by omega))⟩) (Or.inl ⟨rfl, (u3p (by omega) (by omega) (by omega)), (same3 (by omega) (by omega) (by omega))⟩) (Or.inl ⟨rfl, (u3p (by omega) (by omega) (by omega)), (same3 (by omega) (by omega) (by omega))⟩) (Or.inl ⟨rfl, (u3p (by omega) (by omega) (by omega)), (same3 (by omega) (by omega) (by omega))⟩) (Or.inl ⟨rfl, (u3p (by omega) (by omega) (by omega)), (same3 (by omega) (by omega) (by omega))⟩) (Or.inl ⟨rfl, (u3p (by omega) (by omega) (by omega)), (same3 (by omega) (by omega) (by omega))⟩) (Or.inr (⟨rfl, fun i hi => by
          rw [gN_nI (va_up_self (va_up (va_up A (150 + 2 * gN A 7) (nI n)) (150 + 2 * gN A 7 + 1) v) 7 (nI (gN A 7 + 1))) (by omega)] at hi
          show va_up (h 30) (gN A 7) (nI n) i = _ ∧ va_up (h 31) (gN A 7) v i = _
          by_cases e : i = gN A 7
          · subst e
            rw [va_up_self, va_up_self, va_up_ne _ _ (show 150 + 2 * gN A 7 ≠ 7 by omega), va_up_ne _ _ (show 150 + 2 * gN A 7 ≠ 150 + 2 * gN A 7 + 1 by omega), va_up_self, va_up_ne _ _ (show 150 + 2 * gN A 7 + 1 ≠ 7 by omega), va_up_self]
            exact ⟨rfl, rfl⟩
          · rw [va_up_ne _ _ e, va_up_ne _ _ e, u3p (by omega) (by omega) (by omega), u3p (by omega) (by omega) (by omega)]
            exact pa.2 i (by omega)⟩)) (Or.inl ⟨rfl, (same3 (by omega) (by omega) (by omega))⟩) (H.2.2.2.1.2.2.2.2.2.2.1.trans (u3p (by omega) (by omega) (by omega)).symm) (H.2.2.2.1.2.2.2.2.2.2.2.trans (u3p (by omega) (by omega) (by omega)).symm)
        have C := c_tell_T_29 (L := L) (t := t) (lt := lt) (rt := rt) (rp := rp) (sw := sw) (h := h) (gl := gl) n (gN A 7) v hn hv.2.1 (pa.1.trans ek) hk
        have C2 : avE 2 168 [.ref 7, .int (nI n), .int v] (sX L t lt rt rp sw h gl) (some (.int (nI (gN A 7 + 1))), sX L t lt rt rp sw (mvPut (mvPut (mvPut h 30 (gN A 7) (nI n)) 31 (gN A 7) v) 29 2 (nI (gN A 7 + 1))) gl) := by
          show avA _ 168 0 [.ref 7, .int (nI (n)), .int (v)] [] _ _
          refine a_aload_0 rfl rfl ?_
          refine a_getr rfl rfl rfl (fun _ _ _ => rfl) rfl ?_
          refine a_getr rfl rfl rfl (fun _ _ _ => rfl) rfl ?_
          refine a_iload_1 rfl rfl ?_
          refine a_iload_2 rfl rfl ?_
          refine a_virtI rfl rfl (C) (Nat.le_of_ble_eq_true rfl) ⟨rfl, rfl, rfl, rfl⟩ rfl rfl rfl (Nat.le_of_ble_eq_true rfl) rfl rfl ?_
          exact a_iret rfl rfl
        exact ⟨_, lt, R, sw, C2, CF_mono (by decide) cf, CI_gen H cf rfl rfl ok (u3p (by omega) (by omega) (by omega)) hr (LI_cf (LI_same (fun i h1 h2 => u3p (by omega) (by omega) (by omega)) (u3p (by omega) (by omega) (by omega)) H.2.2.2.2.2.2) rfl cf), by omega, by omega⟩
      · intro L t lt rt rp sw h gl ok H
        have C := r_behind_T_29 (L := L) (t := t) (lt := lt) (rt := rt) (rp := rp) (sw := sw) (h := h) (gl := gl) n (gN A 7) v hn hv.2.1 (by rw [H.1]; exact ek) hk
        have C2 : avE 3 318 [.ref 81, .int (nI n), .int v] (sX L t lt rt rp sw h gl) (some (.int (nI (gN A 7 + 1))), sX L t lt rt rp sw (mvPut (mvPut (mvPut h 82 (150 + 2 * gN A 7) (nI n)) 82 (150 + 2 * gN A 7 + 1) v) 82 7 (nI (gN A 7 + 1))) gl) := by
          show avA _ 318 0 [.ref 81, .int (nI (n)), .int (v)] [] _ _
          refine a_aload_0 rfl rfl ?_
          refine a_sipush (v := (nI 150)) rfl rfl rfl ?_
          refine a_bipush (v := (nI 7)) rfl rfl rfl ?_
          refine a_iload_1 rfl rfl ?_
          refine a_iload_2 rfl rfl ?_
          refine a_virtI rfl rfl (C) (Nat.le_of_ble_eq_true rfl) ⟨rfl, rfl, rfl, rfl⟩ rfl rfl rfl (Nat.le_of_ble_eq_true rfl) rfl rfl ?_
          exact a_iret rfl rfl
        refine ⟨_, gl, C2, CF_put (CF_put (CF_put CF_refl rfl) rfl) rfl, fun _ _ => rfl, RI_up H ?_ rfl rfl rfl (u3p (by omega) (by omega) (by omega))⟩
        show va_up (va_up (va_up (h 82) (150 + 2 * gN A 7) (nI n)) (150 + 2 * gN A 7 + 1) v) 7 (nI (gN A 7 + 1)) = _
        rw [H.1]
    · refine ⟨-2, A, ?_, ?_, hA, rfl⟩
      · intro L t lt rt rp sw h gl R H hR
        have pa : PA 29 A 150 7 h := H.2.2.2.1.2.2.2.2.1.2.2.2
        have C := c_tell_F_29 (L := L) (t := t) (lt := lt) (rt := rt) (rp := rp) (sw := sw) (h := h) (gl := gl) c v (gN A 7) hz (pa.1.trans ek) hk6 hv
        have C2 : avE 2 168 [.ref 7, .int c, .int v] (sX L t lt rt rp sw h gl) (some (.int (-2)), sX L t lt rt rp sw h gl) := by
          show avA _ 168 0 [.ref 7, .int (c), .int (v)] [] _ _
          refine a_aload_0 rfl rfl ?_
          refine a_getr rfl rfl rfl (fun _ _ _ => rfl) rfl ?_
          refine a_getr rfl rfl rfl (fun _ _ _ => rfl) rfl ?_
          refine a_iload_1 rfl rfl ?_
          refine a_iload_2 rfl rfl ?_
          refine a_virtI rfl rfl (C) (Nat.le_of_ble_eq_true rfl) ⟨rfl, rfl, rfl, rfl⟩ rfl rfl rfl (Nat.le_of_ble_eq_true rfl) rfl rfl ?_
          exact a_iret rfl rfl
        exact ⟨h, lt, R, sw, C2, CF_refl, H, by omega, by omega⟩
      · intro L t lt rt rp sw h gl ok H
        have C := r_behind_F_29 (L := L) (t := t) (lt := lt) (rt := rt) (rp := rp) (sw := sw) (h := h) (gl := gl) c v (gN A 7) hz (by rw [H.1]; exact ek) hk6 hv
        have C2 : avE 3 318 [.ref 81, .int c, .int v] (sX L t lt rt rp sw h gl) (some (.int (-2)), sX L t lt rt rp sw h gl) := by
          show avA _ 318 0 [.ref 81, .int (c), .int (v)] [] _ _
          refine a_aload_0 rfl rfl ?_
          refine a_sipush (v := (nI 150)) rfl rfl rfl ?_
          refine a_bipush (v := (nI 7)) rfl rfl rfl ?_
          refine a_iload_1 rfl rfl ?_
          refine a_iload_2 rfl rfl ?_
          refine a_virtI rfl rfl (C) (Nat.le_of_ble_eq_true rfl) ⟨rfl, rfl, rfl, rfl⟩ rfl rfl rfl (Nat.le_of_ble_eq_true rfl) rfl rfl ?_
          exact a_iret rfl rfl
        exact ⟨h, gl, C2, CF_refl, fun _ _ => rfl, H⟩
end O1
