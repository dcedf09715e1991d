/-! CELLS, BEASTS, UNDO, IMAGES -/
theorem bAt_ext {f g : Nat → Int32} {n : Nat} (e : ∀ b, b < n → f b = g b) (c : Int32) : bAt f n c = bAt g n c := by
  unfold bAt
  exact bs_ext fun b hb => by rw [e b hb]
theorem clP_ext {f g : Nat → Int32} {n : Nat} {mo mo' : Int32} (e0 : mo = mo') (e : ∀ b, b < n → f b = g b) (c k : Int32) : clP mo f n c k ↔ clP mo' g n c k := by
  unfold clP tkn
  rw [e0, bAt_ext e]
theorem gN_up0 {A : Nat → Int32} {v : Nat} (hv : v < 2 ^ 31) : gN (va_up A 0 (nI v)) 0 = v := gN_nI (va_up_self _ _ _) hv
theorem btA_at {A : Nat → Int32} {c m : Int32} : btA A c m (13 + 5 * gN A 0) = c ∧ btA A c m (14 + 5 * gN A 0) = m ∧ btA A c m (15 + 5 * gN A 0) = nI 0 ∧ btA A c m (16 + 5 * gN A 0) = c ∧ btA A c m (17 + 5 * gN A 0) = m ∧ btA A c m 0 = nI (gN A 0 + 1) := by
  unfold btA
  refine ⟨?_, ?_, ?_, ?_, ?_, va_up_self _ _ _⟩
  · rw [va_up_ne _ _ (by omega), va_up_ne _ _ (by omega), va_up_ne _ _ (by omega), va_up_self]
  · rw [va_up_ne _ _ (by omega), va_up_ne _ _ (by omega), va_up_self]
  · rw [va_up_ne _ _ (by omega), va_up_self]
  · rw [va_up_ne _ _ (by omega), va_up_ne _ _ (by omega), va_up_ne _ _ (by omega), va_up_ne _ _ (by omega), va_up_ne _ _ (by omega), va_up_self]
  · rw [va_up_ne _ _ (by omega), va_up_ne _ _ (by omega), va_up_ne _ _ (by omega), va_up_ne _ _ (by omega), va_up_self]
theorem btA_ne {A : Nat → Int32} {c m : Int32} {i : Nat} (h0 : i ≠ 0) (h1 : i < 13 + 5 * gN A 0 ∨ 18 + 5 * gN A 0 ≤ i) : btA A c m i = A i := by
  unfold btA
  rw [va_up_ne _ _ h0, va_up_ne _ _ (by omega), va_up_ne _ _ (by omega), va_up_ne _ _ (by omega), va_up_ne _ _ (by omega), va_up_ne _ _ (by omega)]
theorem btA_ok {A : Nat → Int32} {c m : Int32} (H : okA A) (hP : btP A c m) : okA (btA A c m) := by
  obtain ⟨a, u, r⟩ := H
  obtain ⟨⟨c1, c2, _⟩, m1, n5⟩ := hP
  have h3 := gN_le (m := 30) a (i := 3) (by omega) (by decide)
  have cn : ∀ k, k < 30 → gN A (166 + 51 * k) ≤ 5 := fun k hk => gN_le (m := 5) a (by omega) (by have := bd_step (k := k) (j := 0) (by omega) (by omega); rw [Nat.add_zero] at this; rw [this]; decide)
  obtain ⟨e13, e14, e15, e16, e17, e0⟩ := btA_at (A := A) (c := c) (m := m)
  have g0 : gN (btA A c m) 0 = gN A 0 + 1 := gN_nI e0 (by omega)
  have g3 : gN (btA A c m) 3 = gN A 3 := gN_c (btA_ne (by omega) (by omega))
  have gs : ∀ k, k < 30 → gN (btA A c m) (166 + 51 * k) = gN A (166 + 51 * k) := fun k hk => gN_c (btA_ne (by omega) (by omega))
  refine ⟨?_, ⟨fun b d1 d2 d3 => ?_, fun k b d1 d2 d3 => ?_, fun k hk => ?_⟩, ?_⟩
  · unfold btA
    refine rOK_up (rOK_up (rOK_up (rOK_up (rOK_up (rOK_up a ?_) ?_) ?_) ?_) ?_) ?_
    · unfold inB; rw [bd_tat n5]; exact ⟨c1, show _ ≤ (29 : Int) by omega⟩
    · unfold inB; rw [bd_tm n5]; exact m1
    · unfold inB; rw [bd_at n5]; exact ⟨c1, show _ ≤ (29 : Int) by omega⟩
    · unfold inB; rw [bd_mood n5]; exact m1
    · exact inB_nI (m := 999) (bd_kick n5) (by omega) (by omega)
    · exact inB_nI (m := 5) rfl (by omega) (by omega)
  · rw [g3] at d1 d2
    rw [gs _ (by omega)] at d2
    rw [g0] at d3
    by_cases q : b = gN A 0
    · subst q
      rw [e13, e14, e15, e16, e17]
      exact ⟨rfl, rfl, rfl⟩
    · rw [btA_ne (by omega) (by omega), btA_ne (by omega) (by omega), btA_ne (by omega) (by omega), btA_ne (by omega) (by omega), btA_ne (by omega) (by omega)]
      exact u.1 b d1 d2 (by omega)
  · rw [g3] at d1
    rw [gs _ (by omega)] at d2 d3
    have c5 := cn (k + 1) (by omega)
    have c6 := u.2.2 (k + 1) (by omega)
    rw [btA_ne (by omega) (by omega), btA_ne (by omega) (by omega), btA_ne (by omega) (by omega), btA_ne (by omega) (by omega), btA_ne (by omega) (by omega)]
    exact u.2.1 k b d1 d2 d3
  · rw [g3] at hk
    rw [gs k (by omega), g0]
    have := u.2.2 k hk
    omega
  · rw [btA_ne (by omega) (by omega), btA_ne (by omega) (by omega)]
    exact r
section O2
variable {A B : Nat → Int32} {TX : Nat → Txt}
theorem p_cell (hA : okA A) (c k : Int32) : ∃ (b : Bool) (A' : Nat → Int32), opP 1 2 19 [.ref 7, .int c, .int k] 2 183 [.ref 81, .int c, .int k] TX A B (bB b) A' B := by
  have h5 := gN_le (m := 5) hA.1 (i := 0) (by omega) (by decide)
  have e0 : A 0 = nI (gN A 0) := gN_eq hA.1 (by omega) (by decide)
  by_cases hP : clP (A 9) (fun b => A (13 + 5 * b)) (gN A 0) c k
  · obtain ⟨n, hn, rfl⟩ := inC_of hP.1
    have ok : okA (va_up A (38 + n) k) := okA_up hA (by omega) (by omega) (by omega) (by unfold inB; rw [bd_kind hn]; exact hP.2.1)
    refine ⟨true, va_up A (38 + n) k, ?_, ?_, ok, gN_c (va_up_ne _ _ (by omega))⟩
    · intro L t lt rt rp sw h gl R H hR
      have M := H.2.2.2.1.2.1
      have hP' := (clP_ext (n := gN A 0) M.1.symm (fun b hb => ((M.2.2.2.2.2 b hb).1).symm) (nI n) k).mp hP
      obtain ⟨F, C, P⟩ := c_cell_T (L := L) (t := t) (lt := lt) (rt := rt) (rp := rp) (sw := sw) (h := h) (gl := gl) n (gN A 0) k h5 (M.2.2.2.2.1.trans e0) hn hP' (frA A) (CI_rP H)
      have cf : CF [8, 9, 12] h (mvPut (va_up (mvPut h 12 n k) 9 F) 8 9 (h 8 9 + nI 1)) := CF_put (CF_up (CF_put CF_refl rfl) rfl) rfl
      have hr : HR 11 (va_up A (38 + n) k) (mvPut (va_up (mvPut h 12 n k) 9 F) 8 9 (h 8 9 + nI 1)) := HR_gen (S := [8, 9, 12]) H.1.1 H.2.2.2.1 cf (Or.inr (fun x hx => ⟨by
        show va_up (h 12) n k x = va_up A (38 + n) k (38 + x)
        by_cases e : x = n
        · subst e; rw [va_up_self, va_up_self]
        · rw [va_up_ne _ _ e, va_up_ne _ _ (by omega)]; exact (H.2.2.2.1.1 x hx).1, (H.2.2.2.1.1 x hx).2.trans (va_up_ne _ _ (by omega)).symm⟩)) (Or.inl ⟨rfl, (va_up_ne _ _ (by omega)), (same_up (by omega)), (same_up (by omega))⟩) (Or.inl ⟨rfl, (va_up_ne _ _ (by omega)), (same_up (by omega))⟩) (Or.inl ⟨rfl, (va_up_ne _ _ (by omega)), (same_up (by omega))⟩) (Or.inl ⟨rfl, (va_up_ne _ _ (by omega)), (same_up (by omega))⟩) (Or.inl ⟨rfl, (va_up_ne _ _ (by omega)), (same_up (by omega))⟩) (Or.inl ⟨rfl, (va_up_ne _ _ (by omega)), (same_up (by omega))⟩) (Or.inl ⟨rfl, (va_up_ne _ _ (by omega)), (same_up (by omega))⟩) (Or.inl ⟨rfl, (same_up (by omega))⟩) (H.2.2.2.1.2.2.2.2.2.2.1.trans (va_up_ne _ _ (by omega)).symm) (H.2.2.2.1.2.2.2.2.2.2.2.trans (va_up_ne _ _ (by omega)).symm)
      refine ⟨_, lt, R + 1, sw, C, CF_cl rfl cf, CI_gen H cf rfl rfl ok (va_up_ne _ _ (by omega)) hr (LI_forget H.2.2.2.2.2.2 hR rfl rfl (rPth_ext (op := noW (va_up (h 12) n k)) (F := F) (G := h 10) (fun j hj => ?_) P)), by omega, by omega⟩
      unfold noW frA
      by_cases e : j = n
      · subst e; rw [va_up_self, va_up_self]
      · rw [va_up_ne _ _ e, va_up_ne _ _ (by omega), (H.2.2.2.1.1 j hj).1]
    · intro L t lt rt rp sw h gl ok H
      have C := r_cell_T (L := L) (t := t) (lt := lt) (rt := rt) (rp := rp) (sw := sw) (h := h) (gl := gl) n (gN A 0) k h5 (by rw [H.1]; exact e0) hn (by rw [H.1]; exact hP)
      refine ⟨_, gl, C, CF_put CF_refl rfl, fun _ _ => rfl, RI_up H ?_ rfl rfl rfl (va_up_ne _ _ (by omega))⟩
      show va_up (h 82) (38 + n) k = _
      rw [H.1]
  · refine ⟨false, A, ?_, ?_, hA, rfl⟩
    · intro L t lt rt rp sw h gl R H hR
      have M := H.2.2.2.1.2.1
      have hP' := fun q => hP ((clP_ext (n := gN A 0) M.1.symm (fun b hb => ((M.2.2.2.2.2 b hb).1).symm) c k).mpr q)
      exact ⟨h, lt, R, sw, c_cell_F c k (gN A 0) h5 (M.2.2.2.2.1.trans e0) hP', CF_refl, H, by omega, by omega⟩
    · intro L t lt rt rp sw h gl ok H
      exact ⟨h, gl, r_cell_F c k (gN A 0) h5 (by rw [H.1]; exact e0) (by rw [H.1]; exact hP), CF_refl, fun _ _ => rfl, H⟩
theorem p_beast (hA : okA A) (c m : Int32) : ∃ r A', opP 0 2 29 [.ref 7, .int c, .int m] 3 189 [.ref 81, .int c, .int m] TX A B r A' B ∧ (r = -1 ∨ 0 ≤ r.toInt) := by
  have h5 := gN_le (m := 5) hA.1 (i := 0) (by omega) (by decide)
  have e0 : A 0 = nI (gN A 0) := gN_eq hA.1 (by omega) (by decide)
  by_cases hP : btP A c m
  · have ok := btA_ok hA hP
    obtain ⟨hf, hm, hn⟩ := hP
    obtain ⟨e13, e14, e15, e16, e17, eb0⟩ := btA_at (A := A) (c := c) (m := m)
    refine ⟨nI (gN A 0), btA A c m, ⟨?_, ?_, ok, gN_c (btA_ne (by omega) (by omega))⟩, Or.inr (by rw [nI_toInt (by omega)]; omega)⟩
    · intro L t lt rt rp sw h gl R H hR
      have M := H.2.2.2.1.2.1
      have e4 : h 14 4 = nI (gN A 0) := M.2.2.2.2.1.trans e0
      have Cb : avE 0 32 [.ref 14, .int c, .int m] (sX L t lt rt rp sw h gl) (some (.int (nI (gN A 0))), sX L t lt rt rp sw (mvPut (mvPut (mvPut (mvPut h 15 (gN A 0) c) 16 (gN A 0) m) 17 (gN A 0) (nI 0)) 14 4 (nI (gN A 0 + 1))) gl) := by
        show avA _ 32 0 [.ref 14, .int (c), .int (m)] [] _ _
        refine a_aload_0 rfl rfl ?_
        refine a_geti rfl rfl rfl (fun _ _ _ => rfl) ?_
        refine a_as (y := nI (gN A 0)) e4 ?_
        refine a_iconst (v := (nI 5)) rfl rfl rfl ?_
        refine a_cmpN_lt rfl rfl rfl (by omega) (by omega) (fun _ => ?_) (fun c_5 => False.elim (by omega))
        refine a_aload_0 rfl rfl ?_
        refine a_getr rfl rfl rfl (fun _ _ _ => rfl) rfl ?_
        refine a_aload_0 rfl rfl ?_
        refine a_geti rfl rfl rfl (fun _ _ _ => rfl) ?_
        refine a_as (y := nI (gN A 0)) e4 ?_
        refine a_iload_1 rfl rfl ?_
        refine a_iast rfl rfl rfl rfl (by omega) (by decide) ?_
        refine a_aload_0 rfl rfl ?_
        refine a_getr rfl rfl rfl (fun _ _ _ => rfl) rfl ?_
        refine a_aload_0 rfl rfl ?_
        refine a_geti rfl rfl rfl (fun _ _ _ => rfl) ?_
        refine a_as (y := nI (gN A 0)) e4 ?_
        refine a_iload_2 rfl rfl ?_
        refine a_iast rfl rfl rfl rfl (by omega) (by decide) ?_
        refine a_aload_0 rfl rfl ?_
        refine a_getr rfl rfl rfl (fun _ _ _ => rfl) rfl ?_
        refine a_aload_0 rfl rfl ?_
        refine a_geti rfl rfl rfl (fun _ _ _ => rfl) ?_
        refine a_as (y := nI (gN A 0)) e4 ?_
        refine a_iconst (v := (nI 0)) rfl rfl rfl ?_
        refine a_iast rfl rfl rfl rfl (by omega) (by decide) ?_
        refine a_aload_0 rfl rfl ?_
        refine a_dup rfl rfl rfl ?_
        refine a_geti rfl rfl rfl (fun _ _ _ => rfl) ?_
        refine a_as (y := nI (gN A 0)) e4 ?_
        refine a_iconst (v := (nI 1)) rfl rfl rfl ?_
        refine a_iaddN rfl rfl ?_
        refine a_puti rfl rfl rfl rfl ?_
        refine a_aload_0 rfl rfl ?_
        refine a_geti rfl rfl rfl (fun _ _ _ => rfl) ?_
        refine a_as (y := nI (gN A 0 + 1)) rfl ?_
        refine a_iconst (v := (nI 1)) rfl rfl rfl ?_
        refine a_isubN rfl rfl (by omega) ?_
        refine a_as (y := nI (gN A 0)) (congrArg nI (by omega)) ?_
        exact a_iret rfl rfl
      have cf : CF [14, 15, 16, 17] h (mvPut (mvPut (mvPut (mvPut h 15 (gN A 0) c) 16 (gN A 0) m) 17 (gN A 0) (nI 0)) 14 4 (nI (gN A 0 + 1))) := CF_put (CF_put (CF_put (CF_put CF_refl rfl) rfl) rfl) rfl
      have sm : ∀ a b, 38 ≤ a → same A (btA A c m) a b := fun a b h1 i g1 g2 => btA_ne (by omega) (by omega)
      have sl : ∀ i, 0 < i → i < 13 → btA A c m i = A i := fun i h1 h2 => btA_ne (by omega) (by omega)
      have hr : HR 11 (btA A c m) (mvPut (mvPut (mvPut (mvPut h 15 (gN A 0) c) 16 (gN A 0) m) 17 (gN A 0) (nI 0)) 14 4 (nI (gN A 0 + 1))) := by
        refine HR_gen (S := [14, 15, 16, 17]) H.1.1 H.2.2.2.1 cf (Or.inl ⟨rfl, sm _ _ (by omega)⟩) (Or.inr ?_) (Or.inr (BK_A H.2.2.2.1.2.2.1 rfl rfl rfl (sl 12 (by omega) (by omega)) (sm _ _ (by omega)))) (Or.inl ⟨rfl, sl 3 (by omega) (by omega), sm _ _ (by omega)⟩) (Or.inl ⟨rfl, sl 4 (by omega) (by omega), sm _ _ (by omega)⟩) (Or.inl ⟨rfl, sl 5 (by omega) (by omega), sm _ _ (by omega)⟩) (Or.inl ⟨rfl, sl 6 (by omega) (by omega), sm _ _ (by omega)⟩) (Or.inl ⟨rfl, sl 7 (by omega) (by omega), sm _ _ (by omega)⟩) (Or.inl ⟨rfl, sm _ _ (by omega)⟩) (H.2.2.2.1.2.2.2.2.2.2.1.trans (sl 2 (by omega) (by omega)).symm) (H.2.2.2.1.2.2.2.2.2.2.2.trans (sl 1 (by omega) (by omega)).symm)
        refine ⟨M.1.trans (sl 9 (by omega) (by omega)).symm, M.2.1.trans (sl 10 (by omega) (by omega)).symm, M.2.2.1.trans (sl 8 (by omega) (by omega)).symm, M.2.2.2.1.trans (sl 11 (by omega) (by omega)).symm, eb0.symm, fun b hb => ?_⟩
        rw [gN_nI eb0 (by omega)] at hb
        show va_up (h 15) (gN A 0) c b = _ ∧ va_up (h 16) (gN A 0) m b = _ ∧ va_up (h 17) (gN A 0) (nI 0) b = _
        by_cases q : b = gN A 0
        · subst q
          rw [va_up_self, va_up_self, va_up_self, e13, e14, e15]
          exact ⟨rfl, rfl, rfl⟩
        · rw [va_up_ne _ _ q, va_up_ne _ _ q, va_up_ne _ _ q, btA_ne (by omega) (by omega), btA_ne (by omega) (by omega), btA_ne (by omega) (by omega)]
          exact M.2.2.2.2.2 b (by omega)
      refine ⟨_, lt, R, sw, ?_, CF_cl rfl cf, CI_gen H cf rfl rfl ok (sl 1 (by omega) (by omega)) hr (LI_cf (LI_same (fun i h1 h2 => sm 38 98 (by omega) i h1 h2) (sl 1 (by omega) (by omega)) H.2.2.2.2.2.2) rfl cf), by omega, by omega⟩
      show avA _ 29 0 [.ref 7, .int (c), .int (m)] [] _ _
      refine a_aload_0 rfl rfl ?_
      refine a_iload_1 rfl rfl ?_
      refine a_virtI rfl rfl (e_isFree (frA A) (CI_op H) c) (Nat.le_of_ble_eq_true rfl) ⟨rfl, rfl, rfl, rfl⟩ rfl rfl rfl (Nat.le_of_ble_eq_true rfl) rfl rfl ?_
      refine a_ifb_eq rfl rfl rfl (fun c_5 => by first | exact absurd c_5 (not_not_intro hf) | exact absurd (not_not_intro hf) c_5) (fun _ => ?_)
      refine a_iload_2 rfl rfl ?_
      refine a_bipush (v := (nI 9)) rfl rfl rfl ?_
      refine a_statI rfl rfl (e_isWithin m 9 (by omega)) (Nat.le_of_ble_eq_true rfl) ⟨rfl, rfl, rfl⟩ rfl rfl rfl (Nat.le_of_ble_eq_true rfl) rfl ?_
      refine a_ifb_ne rfl rfl rfl (fun _ => ?_) (fun c_14 => by first | exact absurd hm c_14 | exact absurd c_14 hm)
      refine a_aload_0 rfl rfl ?_
      refine a_getr rfl rfl rfl (fun _ _ _ => rfl) rfl ?_
      refine a_getr rfl rfl rfl (fun _ _ _ => rfl) rfl ?_
      refine a_iload_1 rfl rfl ?_
      refine a_iload_2 rfl rfl ?_
      refine a_virtI rfl rfl (Cb) (Nat.le_of_ble_eq_true rfl) ⟨rfl, rfl, rfl, rfl⟩ rfl rfl rfl (Nat.le_of_ble_eq_true rfl) rfl rfl ?_
      exact a_iret rfl rfl
    · intro L t lt rt rp sw h gl ok2 H
      have ef : frI (h 82) c ↔ opI (frA A) c := by rw [H.1]; exact frI_op A c
      have e0' : h 82 0 = nI (gN A 0) := by rw [H.1]; exact e0
      have C3 : avE 0 191 [.ref 81, .int (nI (gN A 0)), .int (nI 3), .int c] (sX L t lt rt rp sw h gl) (none, sX L t lt rt rp sw (va_up h 82 (va_up A (16 + 5 * gN A 0) c)) gl) := by
        refine av_eq (r_put (gN A 0) 3 c hn (by omega)) ?_
        unfold mvPut
        rw [H.1, show 13 + 5 * gN A 0 + 3 = 16 + 5 * gN A 0 by omega]
      have C4 : avE 0 191 [.ref 81, .int (nI (gN A 0)), .int (nI 4), .int m] (sX L t lt rt rp sw (va_up h 82 (va_up A (16 + 5 * gN A 0) c)) gl) (none, sX L t lt rt rp sw (va_up h 82 (va_up (va_up A (16 + 5 * gN A 0) c) (17 + 5 * gN A 0) m)) gl) := by
        refine av_eq (r_put (gN A 0) 4 m hn (by omega)) ?_
        rw [up_put, show 13 + 5 * gN A 0 + 4 = 17 + 5 * gN A 0 by omega]
      have Cb := r_begin (L := L) (t := t) (lt := lt) (rt := rt) (rp := rp) (sw := sw) (h := h) (gl := gl) (X := va_up (va_up A (16 + 5 * gN A 0) c) (17 + 5 * gN A 0) m) (gN A 0) hn
      have x16 : (va_up (va_up A (16 + 5 * gN A 0) c) (17 + 5 * gN A 0) m) (16 + 5 * gN A 0) = c := by rw [va_up_ne _ _ (by omega), va_up_self]
      have x17 : (va_up (va_up A (16 + 5 * gN A 0) c) (17 + 5 * gN A 0) m) (17 + 5 * gN A 0) = m := va_up_self _ _ _
      rw [x16, x17] at Cb
      refine ⟨va_up h 82 (btA A c m), gl, ?_, CF_up CF_refl rfl, fun _ _ => rfl, RI_up H rfl rfl rfl rfl (btA_ne (by omega) (by omega))⟩
      show avA _ 189 0 [.ref 81, .int (c), .int (m), mvU] [] _ _
      refine a_aload_0 rfl rfl ?_
      refine a_iload_1 rfl rfl ?_
      refine a_virtI rfl rfl (r_isFree c) (Nat.le_of_ble_eq_true rfl) ⟨rfl, rfl, rfl, rfl⟩ rfl rfl rfl (Nat.le_of_ble_eq_true rfl) rfl rfl ?_
      refine a_ifb_eq rfl rfl rfl (fun c_5 => by first | exact absurd c_5 (not_not_intro (ef.mpr hf)) | exact absurd (not_not_intro (ef.mpr hf)) c_5) (fun _ => ?_)
      refine a_iload_2 rfl rfl ?_
      refine a_iconst (v := (nI 0)) rfl rfl rfl ?_
      refine a_bipush (v := (nI 9)) rfl rfl rfl ?_
      refine a_statI rfl rfl (r_isIn0 m 0 9 (by omega) (by omega)) (Nat.le_of_ble_eq_true rfl) ⟨rfl, rfl, rfl⟩ rfl rfl rfl (Nat.le_of_ble_eq_true rfl) rfl ?_
      refine a_ifb_eq rfl rfl rfl (fun c_15 => by first | exact absurd c_15 (not_not_intro hm) | exact absurd (not_not_intro hm) c_15) (fun _ => ?_)
      refine a_aload_0 rfl rfl ?_
      refine a_getr rfl rfl rfl (fun _ _ _ => rfl) rfl ?_
      refine a_iconst (v := (nI 0)) rfl rfl rfl ?_
      refine a_iald rfl rfl (Or.inl rfl) rfl (by omega) (by decide) ?_
      refine a_as (y := nI (gN A 0)) e0' ?_
      refine a_iconst (v := (nI 5)) rfl rfl rfl ?_
      refine a_cmpN_ne rfl rfl rfl (by omega) (by omega) (fun _ => ?_) (fun c_25 => False.elim (by omega))
      refine a_aload_0 rfl rfl ?_
      refine a_getr rfl rfl rfl (fun _ _ _ => rfl) rfl ?_
      refine a_iconst (v := (nI 0)) rfl rfl rfl ?_
      refine a_iald rfl rfl (Or.inl rfl) rfl (by omega) (by decide) ?_
      refine a_as (y := nI (gN A 0)) e0' ?_
      refine a_istore_3 rfl rfl rfl ?_
      refine a_aload_0 rfl rfl ?_
      refine a_iload_3 rfl rfl ?_
      refine a_iconst (v := (nI 3)) rfl rfl rfl ?_
      refine a_iload_1 rfl rfl ?_
      refine a_virt0 rfl rfl (C3) (Nat.le_of_ble_eq_true rfl) ⟨rfl, rfl, rfl, rfl⟩ rfl rfl rfl (Nat.le_of_ble_eq_true rfl) rfl rfl ?_
      refine a_aload_0 rfl rfl ?_
      refine a_iload_3 rfl rfl ?_
      refine a_iconst (v := (nI 4)) rfl rfl rfl ?_
      refine a_iload_2 rfl rfl ?_
      refine a_virt0 rfl rfl (C4) (Nat.le_of_ble_eq_true rfl) ⟨rfl, rfl, rfl, rfl⟩ rfl rfl rfl (Nat.le_of_ble_eq_true rfl) rfl rfl ?_
      refine a_aload_0 rfl rfl ?_
      refine a_iload_3 rfl rfl ?_
      refine a_virt0 rfl rfl (Cb) (Nat.le_of_ble_eq_true rfl) ⟨rfl, rfl, rfl, rfl⟩ rfl rfl rfl (Nat.le_of_ble_eq_true rfl) rfl rfl ?_
      refine a_aload_0 rfl rfl ?_
      refine a_getr rfl rfl rfl (fun _ _ _ => rfl) rfl ?_
      refine a_iconst (v := (nI 0)) rfl rfl rfl ?_
      refine a_dup2 rfl rfl rfl ?_
      refine a_iald rfl rfl (Or.inl rfl) rfl (by omega) (by decide) ?_
      refine a_as (y := nI (gN A 0)) (show va_up (va_up (va_up (va_up (va_up A (16 + 5 * gN A 0) c) (17 + 5 * gN A 0) m) (13 + 5 * gN A 0) c) (14 + 5 * gN A 0) m) (15 + 5 * gN A 0) (nI 0) 0 = nI (gN A 0) by rw [va_up_ne _ _ (by omega), va_up_ne _ _ (by omega), va_up_ne _ _ (by omega), va_up_ne _ _ (by omega), va_up_ne _ _ (by omega)]; exact e0) ?_
      refine a_iconst (v := (nI 1)) rfl rfl rfl ?_
      refine a_iaddN rfl rfl ?_
      refine a_iast rfl rfl rfl rfl (by omega) (by decide) ?_
      rw [up_put]
      refine a_iload_3 rfl rfl ?_
      exact a_iret rfl rfl
  · refine ⟨-1, A, ⟨?_, ?_, hA, rfl⟩, Or.inl rfl⟩
    · intro L t lt rt rp sw h gl R H hR
      have M := H.2.2.2.1.2.1
      have e4 : h 14 4 = nI (gN A 0) := M.2.2.2.2.1.trans e0
      refine ⟨h, lt, R, sw, ?_, CF_refl, H, by omega, by omega⟩
      have Cb : ¬ gN A 0 < 5 → avE 0 32 [.ref 14, .int c, .int m] (sX L t lt rt rp sw h gl) (some (.int (-1)), sX L t lt rt rp sw h gl) := fun q => by
        show avA _ 32 0 [.ref 14, .int (c), .int (m)] [] _ _
        refine a_aload_0 rfl rfl ?_
        refine a_geti rfl rfl rfl (fun _ _ _ => rfl) ?_
        refine a_as (y := nI (gN A 0)) e4 ?_
        refine a_iconst (v := (nI 5)) rfl rfl rfl ?_
        refine a_cmpN_lt rfl rfl rfl (by omega) (by omega) (fun c_5 => False.elim (by omega)) (fun _ => ?_)
        refine a_iconst (v := (-1)) rfl rfl rfl ?_
        exact a_iret rfl rfl
      show avA _ 29 0 [.ref 7, .int (c), .int (m)] [] _ _
      refine a_aload_0 rfl rfl ?_
      refine a_iload_1 rfl rfl ?_
      refine a_virtI rfl rfl (e_isFree (frA A) (CI_op H) c) (Nat.le_of_ble_eq_true rfl) ⟨rfl, rfl, rfl, rfl⟩ rfl rfl rfl (Nat.le_of_ble_eq_true rfl) rfl rfl ?_
      refine a_ifb_eq rfl rfl rfl (fun c_5 => ?_) (fun c_5 => ?_)
      · refine a_iconst (v := (-1)) rfl rfl rfl ?_
        exact a_iret rfl rfl
      · refine a_iload_2 rfl rfl ?_
        refine a_bipush (v := (nI 9)) rfl rfl rfl ?_
        refine a_statI rfl rfl (e_isWithin m 9 (by omega)) (Nat.le_of_ble_eq_true rfl) ⟨rfl, rfl, rfl⟩ rfl rfl rfl (Nat.le_of_ble_eq_true rfl) rfl ?_
        refine a_ifb_ne rfl rfl rfl (fun c_14 => ?_) (fun c_14 => ?_)
        · refine a_aload_0 rfl rfl ?_
          refine a_getr rfl rfl rfl (fun _ _ _ => rfl) rfl ?_
          refine a_getr rfl rfl rfl (fun _ _ _ => rfl) rfl ?_
          refine a_iload_1 rfl rfl ?_
          refine a_iload_2 rfl rfl ?_
          refine a_virtI rfl rfl (Cb (fun q => hP ⟨c_5, c_14, q⟩)) (Nat.le_of_ble_eq_true rfl) ⟨rfl, rfl, rfl, rfl⟩ rfl rfl rfl (Nat.le_of_ble_eq_true rfl) rfl rfl ?_
          exact a_iret rfl rfl
        · refine a_iconst (v := (-1)) rfl rfl rfl ?_
          exact a_iret rfl rfl
    · intro L t lt rt rp sw h gl ok2 H
      have ef : frI (h 82) c ↔ opI (frA A) c := by rw [H.1]; exact frI_op A c
      have e0' : h 82 0 = nI (gN A 0) := by rw [H.1]; exact e0
      refine ⟨h, gl, ?_, CF_refl, fun _ _ => rfl, H⟩
      show avA _ 189 0 [.ref 81, .int (c), .int (m), mvU] [] _ _
      refine a_aload_0 rfl rfl ?_
      refine a_iload_1 rfl rfl ?_
      refine a_virtI rfl rfl (r_isFree c) (Nat.le_of_ble_eq_true rfl) ⟨rfl, rfl, rfl, rfl⟩ rfl rfl rfl (Nat.le_of_ble_eq_true rfl) rfl rfl ?_
      refine a_ifb_eq rfl rfl rfl (fun c_5 => ?_) (fun c_5 => ?_)
      · refine a_iconst (v := (-1)) rfl rfl rfl ?_
        exact a_iret rfl rfl
      · refine a_iload_2 rfl rfl ?_
        refine a_iconst (v := (nI 0)) rfl rfl rfl ?_
        refine a_bipush (v := (nI 9)) rfl rfl rfl ?_
        refine a_statI rfl rfl (r_isIn0 m 0 9 (by omega) (by omega)) (Nat.le_of_ble_eq_true rfl) ⟨rfl, rfl, rfl⟩ rfl rfl rfl (Nat.le_of_ble_eq_true rfl) rfl ?_
        refine a_ifb_eq rfl rfl rfl (fun c_15 => ?_) (fun c_15 => ?_)
        · refine a_iconst (v := (-1)) rfl rfl rfl ?_
          exact a_iret rfl rfl
        · refine a_aload_0 rfl rfl ?_
          refine a_getr rfl rfl rfl (fun _ _ _ => rfl) rfl ?_
          refine a_iconst (v := (nI 0)) rfl rfl rfl ?_
          refine a_iald rfl rfl (Or.inl rfl) rfl (by omega) (by decide) ?_
          refine a_as (y := nI (gN A 0)) e0' ?_
          refine a_iconst (v := (nI 5)) rfl rfl rfl ?_
          refine a_cmpN_ne rfl rfl rfl (by omega) (by omega) (fun c_25 => False.elim (hP ⟨ef.mp c_5, c_15, by omega⟩)) (fun _ => ?_)
          refine a_iconst (v := (-1)) rfl rfl rfl ?_
          exact a_iret rfl rfl
theorem p_undo (hA : okA A) : ∃ r A', opP 0 3 117 [.ref 7] 2 236 [.ref 81] TX A B r A' B := by
  have h3 := gN_le (m := 30) hA.1 (i := 3) (by omega) (by decide)
  have e3 : A 3 = nI (gN A 3) := gN_eq hA.1 (by omega) (by decide)
  by_cases hz : gN A 3 = 0
  · refine ⟨-1, A, ?_, ?_, hA, rfl⟩
    · intro L t lt rt rp sw h gl R H hR
      obtain ⟨pf, pc, p1, p2, p3, p4, p5, p6⟩ := H.2.2.2.1.2.2.2.1
      exact ⟨h, lt, R, sw, c_undo_F (by rw [p4, ← p5, hz]), CF_refl, H, by omega, by omega⟩
    · intro L t lt rt rp sw h gl ok2 H
      exact ⟨h, gl, r_undo_F (by rw [H.1, e3, hz]), CF_refl, fun _ _ => rfl, H⟩
  · obtain ⟨s, hs⟩ : ∃ s, gN A 3 = s + 1 := ⟨gN A 3 - 1, by omega⟩
    have eu : unA A = unB A s := by unfold unA; rw [hs]; rfl
    have lo : ∀ i, i < 3 ∨ (3 < i ∧ i < 8) ∨ (38 ≤ i ∧ i < 1696) → unA A i = A i := fun i hi => by rw [eu]; exact unB_lo (by omega)
    have sm : ∀ a b, 38 ≤ a → b ≤ 1696 → same A (unA A) a b := fun a b h1 h2 i g1 g2 => lo i (by omega)
    have ok : okA (unA A) := ⟨by rw [eu]; exact unB_OK (by omega) hA.1, UI_undo hA.1 hA.2.1 (by omega), by rw [lo 2 (by omega), lo 1 (by omega)]; exact hA.2.2⟩
    refine ⟨nI (gN A 3 - 1), unA A, ?_, ?_, ok, gN_c (lo 1 (by omega))⟩
    · intro L t lt rt rp sw h gl R H hR
      obtain ⟨h', C, c, d, M, K, P⟩ := c_undo_T (L := L) (t := t) (lt := lt) (rt := rt) (rp := rp) (sw := sw) (h := h) (gl := gl) A hA.1 hA.2.1 H.2.2.2.1.2.1 H.2.2.2.1.2.2.2.1 (by omega)
      refine ⟨h', lt, R, sw, C, CF_cl rfl c, CI_gen H c rfl rfl ok (lo 1 (by omega)) (HR_gen H.1.1 H.2.2.2.1 c (Or.inl ⟨rfl, sm _ _ (by omega) (by omega)⟩) (Or.inr M) (Or.inr K) (Or.inr P) (Or.inl ⟨rfl, lo 4 (by omega), sm _ _ (by omega) (by omega)⟩) (Or.inl ⟨rfl, lo 5 (by omega), sm _ _ (by omega) (by omega)⟩) (Or.inl ⟨rfl, lo 6 (by omega), sm _ _ (by omega) (by omega)⟩) (Or.inl ⟨rfl, lo 7 (by omega), sm _ _ (by omega) (by omega)⟩) (Or.inl ⟨rfl, sm _ _ (by omega) (by omega)⟩) (by rw [d 11 (by omega), lo 2 (by omega)]; exact H.2.2.2.1.2.2.2.2.2.2.1) (by rw [d 12 (by omega), lo 1 (by omega)]; exact H.2.2.2.1.2.2.2.2.2.2.2)) (LI_cf (LI_same (fun i h1 h2 => sm 38 98 (by omega) (by omega) i h1 h2) (lo 1 (by omega)) H.2.2.2.2.2.2) rfl c), by omega, by omega⟩
    · intro L t lt rt rp sw h gl ok2 H
      have C := r_undo_T (L := L) (t := t) (lt := lt) (rt := rt) (rp := rp) (sw := sw) (h := h) (gl := gl) (by rw [H.1]; exact hA.1) (by rw [H.1]; omega)
      rw [H.1] at C
      exact ⟨_, gl, C, CF_up CF_refl rfl, fun _ _ => rfl, RI_up H rfl rfl rfl rfl (lo 1 (by omega))⟩
end O2
