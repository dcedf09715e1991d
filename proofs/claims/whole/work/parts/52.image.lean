/-! IMAGES: copies of all that is held -/
theorem MR_copy {d s : Nat} {A : Nat → Int32} {h h' : Nat → Nat → Int32} (hn : gN A 0 ≤ 5) (H : MR s A h) (e0 : h' d 0 = h s 0) (e1 : h' d 1 = h s 1) (e2 : h' d 2 = h s 2) (e3 : h' d 3 = h s 3) (e4 : h' d 4 = h s 4) (eb : ∀ b, b < 5 → h' (d + 1) b = h (s + 1) b ∧ h' (d + 2) b = h (s + 2) b ∧ h' (d + 3) b = h (s + 3) b) : MR d A h' := by
  obtain ⟨a0, a1, a2, a3, a4, ab⟩ := H
  refine ⟨e0.trans a0, e1.trans a1, e2.trans a2, e3.trans a3, e4.trans a4, fun b hb => ?_⟩
  obtain ⟨x1, x2, x3⟩ := eb b (by omega)
  obtain ⟨y1, y2, y3⟩ := ab b hb
  exact ⟨x1.trans y1, x2.trans y2, x3.trans y3⟩
theorem BK_copy {wr : Bool} {d s : Nat} {A : Nat → Int32} {h h' : Nat → Nat → Int32} (H : BK wr s A h) (e9 : h' d 9 = h s 9) (e10 : h' d 10 = h s 10) (ek : ∀ i, i < 30 → h' (d + 4) i = h (s + 4) i) : BK wr d A h' := by
  obtain ⟨bf, bc, b1, b2, b3, b4, b5⟩ := H
  refine ⟨bf, bc, b1, b2, e9.trans b3, e10.trans b4, fun hw => ⟨(b5 hw).1, fun i hi => ?_⟩⟩
  rw [ek _ (by omega)]
  exact (b5 hw).2 i hi
theorem BK_weak {m : Nat} {A : Nat → Int32} {h : Nat → Nat → Int32} (H : BK true m A h) : BK false m A h := by
  obtain ⟨bf, bc, b1, b2, b3, b4, b5⟩ := H
  exact ⟨bf, bc, b1, b2, b3, b4, fun hw => absurd hw (by decide)⟩
theorem PR_copy {d s : Nat} {A : Nat → Int32} {h h' : Nat → Nat → Int32} (hA : rOK A) (H : PR s A h) (e4 : h' d 4 = h s 4) (e5 : h' d 5 = h s 5) (ep : ∀ i, i < 1560 → h' (d + 8) i = h (s + 8) i) : PR d A h' := by
  obtain ⟨pf, pc, p1, p2, p3, p4, p5, p6⟩ := H
  refine ⟨pf, pc, p1, p2, e4.trans p3, e5.trans p4, p5, fun k hk => ?_⟩
  have cn : gN A (166 + 51 * k) ≤ 5 := gN_le (m := 5) hA (by omega) (by have := bd_step (k := k) (j := 0) (by omega) (by omega); rw [Nat.add_zero] at this; rw [this]; decide)
  exact SR_ext cn (fun j hj => ep _ (by omega)) (fun _ _ => rfl) (p6 k hk)
section IM
variable {L t : Nat} {lt rt rp : Option Nat} {sw : Bool} {h : Nat → Nat → Int32} {gl : Nat → Nat → Int64} {A B : Nat → Int32} {TX : Nat → Txt} {R : Nat}
theorem e_mcopy_43_14 : ∃ h', avE 0 130 [.ref 43, .ref 14] (sX L t lt rt rp sw h gl) (none, sX L t lt rt rp sw h' gl) ∧ CF [43, 44, 45, 46, 47] h h' ∧ (h' 43 0 = h 14 0 ∧ h' 43 1 = h 14 1 ∧ h' 43 2 = h 14 2 ∧ h' 43 3 = h 14 3 ∧ h' 43 4 = h 14 4 ∧ h' 43 9 = h 14 9 ∧ h' 43 10 = h 14 10) ∧ (∀ b, b < 5 → h' 44 b = h 15 b ∧ h' 45 b = h 16 b ∧ h' 46 b = h 17 b) ∧ ∀ i, i < 30 → h' 47 i = h 18 i := by
  let h1 : Nat → Nat → Int32 := mvPut (mvPut (mvPut (mvPut (mvPut (mvPut (mvPut h 43 0 (h 14 0)) 43 1 (h 14 1)) 43 2 (h 14 2)) 43 3 (h 14 3)) 43 4 (h 14 4)) 43 9 (h 14 9)) 43 10 (h 14 10)
  let h2 : Nat → Nat → Int32 := va_up h1 44 (va_cpy (h1 15) (h1 44) 0 0 5)
  let h3 : Nat → Nat → Int32 := va_up h2 45 (va_cpy (h2 16) (h2 45) 0 0 5)
  let h4 : Nat → Nat → Int32 := va_up h3 46 (va_cpy (h3 17) (h3 46) 0 0 5)
  let h5 : Nat → Nat → Int32 := va_up h4 47 (va_cpy (h4 18) (h4 47) 0 0 30)
  refine ⟨h5, ?_, CF_up (CF_up (CF_up (CF_up (CF_put (CF_put (CF_put (CF_put (CF_put (CF_put (CF_put CF_refl rfl) rfl) rfl) rfl) rfl) rfl) rfl) rfl) rfl) rfl) rfl, ⟨rfl, rfl, rfl, rfl, rfl, rfl, rfl⟩, fun b hb => ⟨?_, ?_, ?_⟩, fun i hi => ?_⟩
  · show avA _ 130 0 [.ref 43, .ref 14] [] _ _
    refine a_aload_0 rfl rfl ?_
    refine a_aload_1 rfl rfl ?_
    refine a_geti rfl rfl rfl (fun _ _ _ => rfl) ?_
    refine a_puti rfl rfl rfl rfl ?_
    refine a_aload_0 rfl rfl ?_
    refine a_aload_1 rfl rfl ?_
    refine a_geti rfl rfl rfl (fun _ _ _ => rfl) ?_
    refine a_puti rfl rfl rfl rfl ?_
    refine a_aload_0 rfl rfl ?_
    refine a_aload_1 rfl rfl ?_
    refine a_geti rfl rfl rfl (fun _ _ _ => rfl) ?_
    refine a_puti rfl rfl rfl rfl ?_
    refine a_aload_0 rfl rfl ?_
    refine a_aload_1 rfl rfl ?_
    refine a_geti rfl rfl rfl (fun _ _ _ => rfl) ?_
    refine a_puti rfl rfl rfl rfl ?_
    refine a_aload_0 rfl rfl ?_
    refine a_aload_1 rfl rfl ?_
    refine a_geti rfl rfl rfl (fun _ _ _ => rfl) ?_
    refine a_puti rfl rfl rfl rfl ?_
    refine a_aload_0 rfl rfl ?_
    refine a_aload_1 rfl rfl ?_
    refine a_geti rfl rfl rfl (fun _ _ _ => rfl) ?_
    refine a_puti rfl rfl rfl rfl ?_
    refine a_aload_0 rfl rfl ?_
    refine a_aload_1 rfl rfl ?_
    refine a_geti rfl rfl rfl (fun _ _ _ => rfl) ?_
    refine a_puti rfl rfl rfl rfl ?_
    refine a_aload_1 rfl rfl ?_
    refine a_getr rfl rfl rfl (fun _ _ _ => rfl) rfl ?_
    refine a_iconst (v := (nI 0)) rfl rfl rfl ?_
    refine a_aload_0 rfl rfl ?_
    refine a_getr rfl rfl rfl (fun _ _ _ => rfl) rfl ?_
    refine a_iconst (v := (nI 0)) rfl rfl rfl ?_
    refine a_iconst (v := (nI 5)) rfl rfl rfl ?_
    refine a_copy rfl rfl rfl rfl rfl rfl rfl (by omega) (by omega) (by decide) (Nat.le_of_ble_eq_true rfl) ?_
    refine a_aload_1 rfl rfl ?_
    refine a_getr rfl rfl rfl (fun _ _ _ => rfl) rfl ?_
    refine a_iconst (v := (nI 0)) rfl rfl rfl ?_
    refine a_aload_0 rfl rfl ?_
    refine a_getr rfl rfl rfl (fun _ _ _ => rfl) rfl ?_
    refine a_iconst (v := (nI 0)) rfl rfl rfl ?_
    refine a_iconst (v := (nI 5)) rfl rfl rfl ?_
    refine a_copy rfl rfl rfl rfl rfl rfl rfl (by omega) (by omega) (by decide) (Nat.le_of_ble_eq_true rfl) ?_
    refine a_aload_1 rfl rfl ?_
    refine a_getr rfl rfl rfl (fun _ _ _ => rfl) rfl ?_
    refine a_iconst (v := (nI 0)) rfl rfl rfl ?_
    refine a_aload_0 rfl rfl ?_
    refine a_getr rfl rfl rfl (fun _ _ _ => rfl) rfl ?_
    refine a_iconst (v := (nI 0)) rfl rfl rfl ?_
    refine a_iconst (v := (nI 5)) rfl rfl rfl ?_
    refine a_copy rfl rfl rfl rfl rfl rfl rfl (by omega) (by omega) (by decide) (Nat.le_of_ble_eq_true rfl) ?_
    refine a_aload_1 rfl rfl ?_
    refine a_getr rfl rfl rfl (fun _ _ _ => rfl) rfl ?_
    refine a_iconst (v := (nI 0)) rfl rfl rfl ?_
    refine a_aload_0 rfl rfl ?_
    refine a_getr rfl rfl rfl (fun _ _ _ => rfl) rfl ?_
    refine a_iconst (v := (nI 0)) rfl rfl rfl ?_
    refine a_bipush (v := (nI 30)) rfl rfl rfl ?_
    refine a_copy rfl rfl rfl rfl rfl rfl rfl (by omega) (by omega) (by decide) (Nat.le_of_ble_eq_true rfl) ?_
    exact a_vret rfl rfl
  · show va_cpy (h 15) (h 44) 0 0 5 b = _
    rw [cpy0 hb, Nat.zero_add]
  · show va_cpy (h 16) (h 45) 0 0 5 b = _
    rw [cpy0 hb, Nat.zero_add]
  · show va_cpy (h 17) (h 46) 0 0 5 b = _
    rw [cpy0 hb, Nat.zero_add]
  · show va_cpy (h 18) (h 47) 0 0 30 i = _
    rw [cpy0 hi, Nat.zero_add]
theorem e_mcopy_14_43 : ∃ h', avE 0 130 [.ref 14, .ref 43] (sX L t lt rt rp sw h gl) (none, sX L t lt rt rp sw h' gl) ∧ CF [14, 15, 16, 17, 18] h h' ∧ (h' 14 0 = h 43 0 ∧ h' 14 1 = h 43 1 ∧ h' 14 2 = h 43 2 ∧ h' 14 3 = h 43 3 ∧ h' 14 4 = h 43 4 ∧ h' 14 9 = h 43 9 ∧ h' 14 10 = h 43 10) ∧ (∀ b, b < 5 → h' 15 b = h 44 b ∧ h' 16 b = h 45 b ∧ h' 17 b = h 46 b) ∧ ∀ i, i < 30 → h' 18 i = h 47 i := by
  let h1 : Nat → Nat → Int32 := mvPut (mvPut (mvPut (mvPut (mvPut (mvPut (mvPut h 14 0 (h 43 0)) 14 1 (h 43 1)) 14 2 (h 43 2)) 14 3 (h 43 3)) 14 4 (h 43 4)) 14 9 (h 43 9)) 14 10 (h 43 10)
  let h2 : Nat → Nat → Int32 := va_up h1 15 (va_cpy (h1 44) (h1 15) 0 0 5)
  let h3 : Nat → Nat → Int32 := va_up h2 16 (va_cpy (h2 45) (h2 16) 0 0 5)
  let h4 : Nat → Nat → Int32 := va_up h3 17 (va_cpy (h3 46) (h3 17) 0 0 5)
  let h5 : Nat → Nat → Int32 := va_up h4 18 (va_cpy (h4 47) (h4 18) 0 0 30)
  refine ⟨h5, ?_, CF_up (CF_up (CF_up (CF_up (CF_put (CF_put (CF_put (CF_put (CF_put (CF_put (CF_put CF_refl rfl) rfl) rfl) rfl) rfl) rfl) rfl) rfl) rfl) rfl) rfl, ⟨rfl, rfl, rfl, rfl, rfl, rfl, rfl⟩, fun b hb => ⟨?_, ?_, ?_⟩, fun i hi => ?_⟩
  · show avA _ 130 0 [.ref 14, .ref 43] [] _ _
    refine a_aload_0 rfl rfl ?_
    refine a_aload_1 rfl rfl ?_
    refine a_geti rfl rfl rfl (fun _ _ _ => rfl) ?_
    refine a_puti rfl rfl rfl rfl ?_
    refine a_aload_0 rfl rfl ?_
    refine a_aload_1 rfl rfl ?_
    refine a_geti rfl rfl rfl (fun _ _ _ => rfl) ?_
    refine a_puti rfl rfl rfl rfl ?_
    refine a_aload_0 rfl rfl ?_
    refine a_aload_1 rfl rfl ?_
    refine a_geti rfl rfl rfl (fun _ _ _ => rfl) ?_
    refine a_puti rfl rfl rfl rfl ?_
    refine a_aload_0 rfl rfl ?_
    refine a_aload_1 rfl rfl ?_
    refine a_geti rfl rfl rfl (fun _ _ _ => rfl) ?_
    refine a_puti rfl rfl rfl rfl ?_
    refine a_aload_0 rfl rfl ?_
    refine a_aload_1 rfl rfl ?_
    refine a_geti rfl rfl rfl (fun _ _ _ => rfl) ?_
    refine a_puti rfl rfl rfl rfl ?_
    refine a_aload_0 rfl rfl ?_
    refine a_aload_1 rfl rfl ?_
    refine a_geti rfl rfl rfl (fun _ _ _ => rfl) ?_
    refine a_puti rfl rfl rfl rfl ?_
    refine a_aload_0 rfl rfl ?_
    refine a_aload_1 rfl rfl ?_
    refine a_geti rfl rfl rfl (fun _ _ _ => rfl) ?_
    refine a_puti rfl rfl rfl rfl ?_
    refine a_aload_1 rfl rfl ?_
    refine a_getr rfl rfl rfl (fun _ _ _ => rfl) rfl ?_
    refine a_iconst (v := (nI 0)) rfl rfl rfl ?_
    refine a_aload_0 rfl rfl ?_
    refine a_getr rfl rfl rfl (fun _ _ _ => rfl) rfl ?_
    refine a_iconst (v := (nI 0)) rfl rfl rfl ?_
    refine a_iconst (v := (nI 5)) rfl rfl rfl ?_
    refine a_copy rfl rfl rfl rfl rfl rfl rfl (by omega) (by omega) (by decide) (Nat.le_of_ble_eq_true rfl) ?_
    refine a_aload_1 rfl rfl ?_
    refine a_getr rfl rfl rfl (fun _ _ _ => rfl) rfl ?_
    refine a_iconst (v := (nI 0)) rfl rfl rfl ?_
    refine a_aload_0 rfl rfl ?_
    refine a_getr rfl rfl rfl (fun _ _ _ => rfl) rfl ?_
    refine a_iconst (v := (nI 0)) rfl rfl rfl ?_
    refine a_iconst (v := (nI 5)) rfl rfl rfl ?_
    refine a_copy rfl rfl rfl rfl rfl rfl rfl (by omega) (by omega) (by decide) (Nat.le_of_ble_eq_true rfl) ?_
    refine a_aload_1 rfl rfl ?_
    refine a_getr rfl rfl rfl (fun _ _ _ => rfl) rfl ?_
    refine a_iconst (v := (nI 0)) rfl rfl rfl ?_
    refine a_aload_0 rfl rfl ?_
    refine a_getr rfl rfl rfl (fun _ _ _ => rfl) rfl ?_
    refine a_iconst (v := (nI 0)) rfl rfl rfl ?_
    refine a_iconst (v := (nI 5)) rfl rfl rfl ?_
    refine a_copy rfl rfl rfl rfl rfl rfl rfl (by omega) (by omega) (by decide) (Nat.le_of_ble_eq_true rfl) ?_
    refine a_aload_1 rfl rfl ?_
    refine a_getr rfl rfl rfl (fun _ _ _ => rfl) rfl ?_
    refine a_iconst (v := (nI 0)) rfl rfl rfl ?_
    refine a_aload_0 rfl rfl ?_
    refine a_getr rfl rfl rfl (fun _ _ _ => rfl) rfl ?_
    refine a_iconst (v := (nI 0)) rfl rfl rfl ?_
    refine a_bipush (v := (nI 30)) rfl rfl rfl ?_
    refine a_copy rfl rfl rfl rfl rfl rfl rfl (by omega) (by omega) (by decide) (Nat.le_of_ble_eq_true rfl) ?_
    exact a_vret rfl rfl
  · show va_cpy (h 44) (h 15) 0 0 5 b = _
    rw [cpy0 hb, Nat.zero_add]
  · show va_cpy (h 45) (h 16) 0 0 5 b = _
    rw [cpy0 hb, Nat.zero_add]
  · show va_cpy (h 46) (h 17) 0 0 5 b = _
    rw [cpy0 hb, Nat.zero_add]
  · show va_cpy (h 47) (h 18) 0 0 30 i = _
    rw [cpy0 hi, Nat.zero_add]
theorem e_mcopy_62_14 : ∃ h', avE 0 130 [.ref 62, .ref 14] (sX L t lt rt rp sw h gl) (none, sX L t lt rt rp sw h' gl) ∧ CF [62, 63, 64, 65, 66] h h' ∧ (h' 62 0 = h 14 0 ∧ h' 62 1 = h 14 1 ∧ h' 62 2 = h 14 2 ∧ h' 62 3 = h 14 3 ∧ h' 62 4 = h 14 4 ∧ h' 62 9 = h 14 9 ∧ h' 62 10 = h 14 10) ∧ (∀ b, b < 5 → h' 63 b = h 15 b ∧ h' 64 b = h 16 b ∧ h' 65 b = h 17 b) ∧ ∀ i, i < 30 → h' 66 i = h 18 i := by
  let h1 : Nat → Nat → Int32 := mvPut (mvPut (mvPut (mvPut (mvPut (mvPut (mvPut h 62 0 (h 14 0)) 62 1 (h 14 1)) 62 2 (h 14 2)) 62 3 (h 14 3)) 62 4 (h 14 4)) 62 9 (h 14 9)) 62 10 (h 14 10)
  let h2 : Nat → Nat → Int32 := va_up h1 63 (va_cpy (h1 15) (h1 63) 0 0 5)
  let h3 : Nat → Nat → Int32 := va_up h2 64 (va_cpy (h2 16) (h2 64) 0 0 5)
  let h4 : Nat → Nat → Int32 := va_up h3 65 (va_cpy (h3 17) (h3 65) 0 0 5)
  let h5 : Nat → Nat → Int32 := va_up h4 66 (va_cpy (h4 18) (h4 66) 0 0 30)
  refine ⟨h5, ?_, CF_up (CF_up (CF_up (CF_up (CF_put (CF_put (CF_put (CF_put (CF_put (CF_put (CF_put CF_refl rfl) rfl) rfl) rfl) rfl) rfl) rfl) rfl) rfl) rfl) rfl, ⟨rfl, rfl, rfl, rfl, rfl, rfl, rfl⟩, fun b hb => ⟨?_, ?_, ?_⟩, fun i hi => ?_⟩
  · show avA _ 130 0 [.ref 62, .ref 14] [] _ _
    refine a_aload_0 rfl rfl ?_
    refine a_aload_1 rfl rfl ?_
    refine a_geti rfl rfl rfl (fun _ _ _ => rfl) ?_
    refine a_puti rfl rfl rfl rfl ?_
    refine a_aload_0 rfl rfl ?_
    refine a_aload_1 rfl rfl ?_
    refine a_geti rfl rfl rfl (fun _ _ _ => rfl) ?_
    refine a_puti rfl rfl rfl rfl ?_
    refine a_aload_0 rfl rfl ?_
    refine a_aload_1 rfl rfl ?_
    refine a_geti rfl rfl rfl (fun _ _ _ => rfl) ?_
    refine a_puti rfl rfl rfl rfl ?_
    refine a_aload_0 rfl rfl ?_
    refine a_aload_1 rfl rfl ?_
    refine a_geti rfl rfl rfl (fun _ _ _ => rfl) ?_
    refine a_puti rfl rfl rfl rfl ?_
    refine a_aload_0 rfl rfl ?_
    refine a_aload_1 rfl rfl ?_
    refine a_geti rfl rfl rfl (fun _ _ _ => rfl) ?_
    refine a_puti rfl rfl rfl rfl ?_
    refine a_aload_0 rfl rfl ?_
    refine a_aload_1 rfl rfl ?_
    refine a_geti rfl rfl rfl (fun _ _ _ => rfl) ?_
    refine a_puti rfl rfl rfl rfl ?_
    refine a_aload_0 rfl rfl ?_
    refine a_aload_1 rfl rfl ?_
    refine a_geti rfl rfl rfl (fun _ _ _ => rfl) ?_
    refine a_puti rfl rfl rfl rfl ?_
    refine a_aload_1 rfl rfl ?_
    refine a_getr rfl rfl rfl (fun _ _ _ => rfl) rfl ?_
    refine a_iconst (v := (nI 0)) rfl rfl rfl ?_
    refine a_aload_0 rfl rfl ?_
    refine a_getr rfl rfl rfl (fun _ _ _ => rfl) rfl ?_
    refine a_iconst (v := (nI 0)) rfl rfl rfl ?_
    refine a_iconst (v := (nI 5)) rfl rfl rfl ?_
    refine a_copy rfl rfl rfl rfl rfl rfl rfl (by omega) (by omega) (by decide) (Nat.le_of_ble_eq_true rfl) ?_
    refine a_aload_1 rfl rfl ?_
    refine a_getr rfl rfl rfl (fun _ _ _ => rfl) rfl ?_
    refine a_iconst (v := (nI 0)) rfl rfl rfl ?_
    refine a_aload_0 rfl rfl ?_
    refine a_getr rfl rfl rfl (fun _ _ _ => rfl) rfl ?_
    refine a_iconst (v := (nI 0)) rfl rfl rfl ?_
    refine a_iconst (v := (nI 5)) rfl rfl rfl ?_
    refine a_copy rfl rfl rfl rfl rfl rfl rfl (by omega) (by omega) (by decide) (Nat.le_of_ble_eq_true rfl) ?_
    refine a_aload_1 rfl rfl ?_
    refine a_getr rfl rfl rfl (fun _ _ _ => rfl) rfl ?_
    refine a_iconst (v := (nI 0)) rfl rfl rfl ?_
    refine a_aload_0 rfl rfl ?_
    refine a_getr rfl rfl rfl (fun _ _ _ => rfl) rfl ?_
    refine a_iconst (v := (nI 0)) rfl rfl rfl ?_
    refine a_iconst (v := (nI 5)) rfl rfl rfl ?_
    refine a_copy rfl rfl rfl rfl rfl rfl rfl (by omega) (by omega) (by decide) (Nat.le_of_ble_eq_true rfl) ?_
    refine a_aload_1 rfl rfl ?_
    refine a_getr rfl rfl rfl (fun _ _ _ => rfl) rfl ?_
    refine a_iconst (v := (nI 0)) rfl rfl rfl ?_
    refine a_aload_0 rfl rfl ?_
    refine a_getr rfl rfl rfl (fun _ _ _ => rfl) rfl ?_
    refine a_iconst (v := (nI 0)) rfl rfl rfl ?_
    refine a_bipush (v := (nI 30)) rfl rfl rfl ?_
    refine a_copy rfl rfl rfl rfl rfl rfl rfl (by omega) (by omega) (by decide) (Nat.le_of_ble_eq_true rfl) ?_
    exact a_vret rfl rfl
  · show va_cpy (h 15) (h 63) 0 0 5 b = _
    rw [cpy0 hb, Nat.zero_add]
  · show va_cpy (h 16) (h 64) 0 0 5 b = _
    rw [cpy0 hb, Nat.zero_add]
  · show va_cpy (h 17) (h 65) 0 0 5 b = _
    rw [cpy0 hb, Nat.zero_add]
  · show va_cpy (h 18) (h 66) 0 0 30 i = _
    rw [cpy0 hi, Nat.zero_add]
theorem e_pcopy_49 (k : Nat) (hk : k ≤ 6) (e2 : h 20 2 = nI k) : ∃ h', avE 0 178 [.ref 49, .ref 20] (sX L t lt rt rp sw h gl) (none, sX L t lt rt rp sw h' gl) ∧ CF [49, 50, 51] h h' ∧ h' 49 2 = nI k ∧ ∀ i, i < k → h' 50 i = h 21 i ∧ h' 51 i = h 22 i := by
  let h1 : Nat → Nat → Int32 := mvPut h 49 2 (nI k)
  let h2 : Nat → Nat → Int32 := va_up h1 50 (va_cpy (h1 21) (h1 50) 0 0 k)
  let h3 : Nat → Nat → Int32 := va_up h2 51 (va_cpy (h2 22) (h2 51) 0 0 k)
  refine ⟨h3, ?_, CF_up (CF_up (CF_put CF_refl rfl) rfl) rfl, rfl, fun i hi => ⟨?_, ?_⟩⟩
  · show avA _ 178 0 [.ref 49, .ref 20] [] _ _
    refine a_aload_0 rfl rfl ?_
    refine a_aload_1 rfl rfl ?_
    refine a_geti rfl rfl rfl (fun _ _ _ => rfl) ?_
    refine a_as (y := nI (k)) e2 ?_
    refine a_aload_0 rfl rfl ?_
    refine a_getr rfl rfl rfl (fun _ _ _ => rfl) rfl ?_
    refine a_alen rfl rfl rfl rfl ?_
    refine a_minN rfl rfl (Nat.le_of_ble_eq_true rfl) (by omega) (by omega) ?_
    refine a_as (y := nI k) (congrArg nI (by omega)) ?_
    refine a_puti rfl rfl rfl rfl ?_
    refine a_aload_1 rfl rfl ?_
    refine a_getr rfl rfl rfl (fun _ _ _ => rfl) rfl ?_
    refine a_iconst (v := (nI 0)) rfl rfl rfl ?_
    refine a_aload_0 rfl rfl ?_
    refine a_getr rfl rfl rfl (fun _ _ _ => rfl) rfl ?_
    refine a_iconst (v := (nI 0)) rfl rfl rfl ?_
    refine a_aload_0 rfl rfl ?_
    refine a_geti rfl rfl rfl (fun _ _ _ => rfl) ?_
    refine a_as (y := nI (k)) rfl ?_
    refine a_copy rfl rfl rfl rfl rfl rfl rfl (by omega) (by omega) (by decide) (Nat.le_of_ble_eq_true rfl) ?_
    refine a_aload_1 rfl rfl ?_
    refine a_getr rfl rfl rfl (fun _ _ _ => rfl) rfl ?_
    refine a_iconst (v := (nI 0)) rfl rfl rfl ?_
    refine a_aload_0 rfl rfl ?_
    refine a_getr rfl rfl rfl (fun _ _ _ => rfl) rfl ?_
    refine a_iconst (v := (nI 0)) rfl rfl rfl ?_
    refine a_aload_0 rfl rfl ?_
    refine a_geti rfl rfl rfl (fun _ _ _ => rfl) ?_
    refine a_as (y := nI (k)) rfl ?_
    refine a_copy rfl rfl rfl rfl rfl rfl rfl (by omega) (by omega) (by decide) (Nat.le_of_ble_eq_true rfl) ?_
    exact a_vret rfl rfl
  · show va_cpy (h 21) (h 50) 0 0 k i = _
    rw [cpy0 hi, Nat.zero_add]
  · show va_cpy (h 22) (h 51) 0 0 k i = _
    rw [cpy0 hi, Nat.zero_add]
theorem e_pcopy_52 (k : Nat) (hk : k ≤ 6) (e2 : h 23 2 = nI k) : ∃ h', avE 0 178 [.ref 52, .ref 23] (sX L t lt rt rp sw h gl) (none, sX L t lt rt rp sw h' gl) ∧ CF [52, 53, 54] h h' ∧ h' 52 2 = nI k ∧ ∀ i, i < k → h' 53 i = h 24 i ∧ h' 54 i = h 25 i := by
  let h1 : Nat → Nat → Int32 := mvPut h 52 2 (nI k)
  let h2 : Nat → Nat → Int32 := va_up h1 53 (va_cpy (h1 24) (h1 53) 0 0 k)
  let h3 : Nat → Nat → Int32 := va_up h2 54 (va_cpy (h2 25) (h2 54) 0 0 k)
  refine ⟨h3, ?_, CF_up (CF_up (CF_put CF_refl rfl) rfl) rfl, rfl, fun i hi => ⟨?_, ?_⟩⟩
  · show avA _ 178 0 [.ref 52, .ref 23] [] _ _
    refine a_aload_0 rfl rfl ?_
    refine a_aload_1 rfl rfl ?_
    refine a_geti rfl rfl rfl (fun _ _ _ => rfl) ?_
    refine a_as (y := nI (k)) e2 ?_
    refine a_aload_0 rfl rfl ?_
    refine a_getr rfl rfl rfl (fun _ _ _ => rfl) rfl ?_
    refine a_alen rfl rfl rfl rfl ?_
    refine a_minN rfl rfl (Nat.le_of_ble_eq_true rfl) (by omega) (by omega) ?_
    refine a_as (y := nI k) (congrArg nI (by omega)) ?_
    refine a_puti rfl rfl rfl rfl ?_
    refine a_aload_1 rfl rfl ?_
    refine a_getr rfl rfl rfl (fun _ _ _ => rfl) rfl ?_
    refine a_iconst (v := (nI 0)) rfl rfl rfl ?_
    refine a_aload_0 rfl rfl ?_
    refine a_getr rfl rfl rfl (fun _ _ _ => rfl) rfl ?_
    refine a_iconst (v := (nI 0)) rfl rfl rfl ?_
    refine a_aload_0 rfl rfl ?_
    refine a_geti rfl rfl rfl (fun _ _ _ => rfl) ?_
    refine a_as (y := nI (k)) rfl ?_
    refine a_copy rfl rfl rfl rfl rfl rfl rfl (by omega) (by omega) (by decide) (Nat.le_of_ble_eq_true rfl) ?_
    refine a_aload_1 rfl rfl ?_
    refine a_getr rfl rfl rfl (fun _ _ _ => rfl) rfl ?_
    refine a_iconst (v := (nI 0)) rfl rfl rfl ?_
    refine a_aload_0 rfl rfl ?_
    refine a_getr rfl rfl rfl (fun _ _ _ => rfl) rfl ?_
    refine a_iconst (v := (nI 0)) rfl rfl rfl ?_
    refine a_aload_0 rfl rfl ?_
    refine a_geti rfl rfl rfl (fun _ _ _ => rfl) ?_
    refine a_as (y := nI (k)) rfl ?_
    refine a_copy rfl rfl rfl rfl rfl rfl rfl (by omega) (by omega) (by decide) (Nat.le_of_ble_eq_true rfl) ?_
    exact a_vret rfl rfl
  · show va_cpy (h 24) (h 53) 0 0 k i = _
    rw [cpy0 hi, Nat.zero_add]
  · show va_cpy (h 25) (h 54) 0 0 k i = _
    rw [cpy0 hi, Nat.zero_add]
theorem e_pcopy_55 (k : Nat) (hk : k ≤ 8) (e2 : h 26 2 = nI k) : ∃ h', avE 0 178 [.ref 55, .ref 26] (sX L t lt rt rp sw h gl) (none, sX L t lt rt rp sw h' gl) ∧ CF [55, 56, 57] h h' ∧ h' 55 2 = nI k ∧ ∀ i, i < k → h' 56 i = h 27 i ∧ h' 57 i = h 28 i := by
  let h1 : Nat → Nat → Int32 := mvPut h 55 2 (nI k)
  let h2 : Nat → Nat → Int32 := va_up h1 56 (va_cpy (h1 27) (h1 56) 0 0 k)
  let h3 : Nat → Nat → Int32 := va_up h2 57 (va_cpy (h2 28) (h2 57) 0 0 k)
  refine ⟨h3, ?_, CF_up (CF_up (CF_put CF_refl rfl) rfl) rfl, rfl, fun i hi => ⟨?_, ?_⟩⟩
  · show avA _ 178 0 [.ref 55, .ref 26] [] _ _
    refine a_aload_0 rfl rfl ?_
    refine a_aload_1 rfl rfl ?_
    refine a_geti rfl rfl rfl (fun _ _ _ => rfl) ?_
    refine a_as (y := nI (k)) e2 ?_
    refine a_aload_0 rfl rfl ?_
    refine a_getr rfl rfl rfl (fun _ _ _ => rfl) rfl ?_
    refine a_alen rfl rfl rfl rfl ?_
    refine a_minN rfl rfl (Nat.le_of_ble_eq_true rfl) (by omega) (by omega) ?_
    refine a_as (y := nI k) (congrArg nI (by omega)) ?_
    refine a_puti rfl rfl rfl rfl ?_
    refine a_aload_1 rfl rfl ?_
    refine a_getr rfl rfl rfl (fun _ _ _ => rfl) rfl ?_
    refine a_iconst (v := (nI 0)) rfl rfl rfl ?_
    refine a_aload_0 rfl rfl ?_
    refine a_getr rfl rfl rfl (fun _ _ _ => rfl) rfl ?_
    refine a_iconst (v := (nI 0)) rfl rfl rfl ?_
    refine a_aload_0 rfl rfl ?_
    refine a_geti rfl rfl rfl (fun _ _ _ => rfl) ?_
    refine a_as (y := nI (k)) rfl ?_
    refine a_copy rfl rfl rfl rfl rfl rfl rfl (by omega) (by omega) (by decide) (Nat.le_of_ble_eq_true rfl) ?_
    refine a_aload_1 rfl rfl ?_
    refine a_getr rfl rfl rfl (fun _ _ _ => rfl) rfl ?_
    refine a_iconst (v := (nI 0)) rfl rfl rfl ?_
    refine a_aload_0 rfl rfl ?_
    refine a_getr rfl rfl rfl (fun _ _ _ => rfl) rfl ?_
    refine a_iconst (v := (nI 0)) rfl rfl rfl ?_
    refine a_aload_0 rfl rfl ?_
    refine a_geti rfl rfl rfl (fun _ _ _ => rfl) ?_
    refine a_as (y := nI (k)) rfl ?_
    refine a_copy rfl rfl rfl rfl rfl rfl rfl (by omega) (by omega) (by decide) (Nat.le_of_ble_eq_true rfl) ?_
    exact a_vret rfl rfl
  · show va_cpy (h 27) (h 56) 0 0 k i = _
    rw [cpy0 hi, Nat.zero_add]
  · show va_cpy (h 28) (h 57) 0 0 k i = _
    rw [cpy0 hi, Nat.zero_add]
theorem e_pcopy_58 (k : Nat) (hk : k ≤ 8) (e2 : h 29 2 = nI k) : ∃ h', avE 0 178 [.ref 58, .ref 29] (sX L t lt rt rp sw h gl) (none, sX L t lt rt rp sw h' gl) ∧ CF [58, 59, 60] h h' ∧ h' 58 2 = nI k ∧ ∀ i, i < k → h' 59 i = h 30 i ∧ h' 60 i = h 31 i := by
  let h1 : Nat → Nat → Int32 := mvPut h 58 2 (nI k)
  let h2 : Nat → Nat → Int32 := va_up h1 59 (va_cpy (h1 30) (h1 59) 0 0 k)
  let h3 : Nat → Nat → Int32 := va_up h2 60 (va_cpy (h2 31) (h2 60) 0 0 k)
  refine ⟨h3, ?_, CF_up (CF_up (CF_put CF_refl rfl) rfl) rfl, rfl, fun i hi => ⟨?_, ?_⟩⟩
  · show avA _ 178 0 [.ref 58, .ref 29] [] _ _
    refine a_aload_0 rfl rfl ?_
    refine a_aload_1 rfl rfl ?_
    refine a_geti rfl rfl rfl (fun _ _ _ => rfl) ?_
    refine a_as (y := nI (k)) e2 ?_
    refine a_aload_0 rfl rfl ?_
    refine a_getr rfl rfl rfl (fun _ _ _ => rfl) rfl ?_
    refine a_alen rfl rfl rfl rfl ?_
    refine a_minN rfl rfl (Nat.le_of_ble_eq_true rfl) (by omega) (by omega) ?_
    refine a_as (y := nI k) (congrArg nI (by omega)) ?_
    refine a_puti rfl rfl rfl rfl ?_
    refine a_aload_1 rfl rfl ?_
    refine a_getr rfl rfl rfl (fun _ _ _ => rfl) rfl ?_
    refine a_iconst (v := (nI 0)) rfl rfl rfl ?_
    refine a_aload_0 rfl rfl ?_
    refine a_getr rfl rfl rfl (fun _ _ _ => rfl) rfl ?_
    refine a_iconst (v := (nI 0)) rfl rfl rfl ?_
    refine a_aload_0 rfl rfl ?_
    refine a_geti rfl rfl rfl (fun _ _ _ => rfl) ?_
    refine a_as (y := nI (k)) rfl ?_
    refine a_copy rfl rfl rfl rfl rfl rfl rfl (by omega) (by omega) (by decide) (Nat.le_of_ble_eq_true rfl) ?_
    refine a_aload_1 rfl rfl ?_
    refine a_getr rfl rfl rfl (fun _ _ _ => rfl) rfl ?_
    refine a_iconst (v := (nI 0)) rfl rfl rfl ?_
    refine a_aload_0 rfl rfl ?_
    refine a_getr rfl rfl rfl (fun _ _ _ => rfl) rfl ?_
    refine a_iconst (v := (nI 0)) rfl rfl rfl ?_
    refine a_aload_0 rfl rfl ?_
    refine a_geti rfl rfl rfl (fun _ _ _ => rfl) ?_
    refine a_as (y := nI (k)) rfl ?_
    refine a_copy rfl rfl rfl rfl rfl rfl rfl (by omega) (by omega) (by decide) (Nat.le_of_ble_eq_true rfl) ?_
    exact a_vret rfl rfl
  · show va_cpy (h 30) (h 59) 0 0 k i = _
    rw [cpy0 hi, Nat.zero_add]
  · show va_cpy (h 31) (h 60) 0 0 k i = _
    rw [cpy0 hi, Nat.zero_add]
theorem e_hcopy_40 (hA : rOK A) (H : HR 11 A h) : ∃ h', avE 1 177 [.ref 40, .ref 11] (sX L t lt rt rp sw h gl) (none, sX L t lt rt rp sw h' gl) ∧ CF (r22 40) h h' ∧ HR 40 A h' := by
  obtain ⟨a1, a2, a3, a4, ⟨p1, p2, p3, p4⟩, a6, a7, a8⟩ := H
  have h0 := gN_le (m := 5) hA (i := 0) (by omega) (by decide)
  have k1 : ∀ c m, c < 1726 → 0 ≤ (bnd c).1 → (bnd c).2 ≤ ((m : Nat) : Int) → A c = nI (gN A c) ∧ gN A c ≤ m := fun c m h1 h2 h3 => ⟨gN_eq hA h1 h2, gN_le hA h1 h3⟩
  let h1 : Nat → Nat → Int32 := va_up h 41 (va_cpy (h 12) (h 41) 0 0 30)
  let h2 : Nat → Nat → Int32 := va_up h1 42 (va_cpy (h1 13) (h1 42) 0 0 30)
  have c2 : CF [41, 42] h h2 := CF_up (CF_up CF_refl rfl) rfl
  obtain ⟨h3, C3, c3, ⟨m0, m1, m2, m3, m4, m9, m10⟩, mb, mk⟩ := e_mcopy_43_14 (L := L) (t := t) (lt := lt) (rt := rt) (rp := rp) (sw := sw) (gl := gl) (h := h2)
  let h4 : Nat → Nat → Int32 := va_up h3 48 (va_cpy (h3 19) (h3 48) 0 0 1560)
  let h6 : Nat → Nat → Int32 := mvPut (mvPut h4 40 4 (h4 11 4)) 40 5 (h4 11 5)
  have c6 : CF [40, 48] h3 h6 := CF_put (CF_put (CF_up CF_refl rfl) rfl) rfl
  have C06 := CF_trans (CF_mono (T := r22 40) (by decide) c2) (CF_trans (CF_mono (T := r22 40) (by decide) c3) (CF_mono (T := r22 40) (by decide) c6))
  have u : ∀ p, (r22 40).contains p = false → h6 p = h p := fun p hp => C06 p hp
  obtain ⟨w1, w2⟩ := k1 4 6 (by omega) (by decide) (by decide)
  obtain ⟨w3, w4⟩ := k1 5 6 (by omega) (by decide) (by decide)
  obtain ⟨w5, w6⟩ := k1 6 8 (by omega) (by decide) (by decide)
  obtain ⟨w7, w8⟩ := k1 7 8 (by omega) (by decide) (by decide)
  obtain ⟨h7, C7, c7, q7, r7⟩ := e_pcopy_49 (L := L) (t := t) (lt := lt) (rt := rt) (rp := rp) (sw := sw) (gl := gl) (h := h6) (gN A 4) w2 (by rw [u 20 rfl]; exact p1.1.trans w1)
  have C07 := CF_trans C06 (CF_mono (T := r22 40) (by decide) c7)
  obtain ⟨h8, C8, c8, q8, r8⟩ := e_pcopy_52 (L := L) (t := t) (lt := lt) (rt := rt) (rp := rp) (sw := sw) (gl := gl) (h := h7) (gN A 5) w4 (by rw [C07 23 rfl]; exact p2.1.trans w3)
  have C08 := CF_trans C07 (CF_mono (T := r22 40) (by decide) c8)
  obtain ⟨h9, C9, c9, q9, r9⟩ := e_pcopy_55 (L := L) (t := t) (lt := lt) (rt := rt) (rp := rp) (sw := sw) (gl := gl) (h := h8) (gN A 6) w6 (by rw [C08 26 rfl]; exact p3.1.trans w5)
  have C09 := CF_trans C08 (CF_mono (T := r22 40) (by decide) c9)
  obtain ⟨h10, C10, c10, q10, r10⟩ := e_pcopy_58 (L := L) (t := t) (lt := lt) (rt := rt) (rp := rp) (sw := sw) (gl := gl) (h := h9) (gN A 7) w8 (by rw [C09 29 rfl]; exact p4.1.trans w7)
  have C010 := CF_trans C09 (CF_mono (T := r22 40) (by decide) c10)
  let h11 : Nat → Nat → Int32 := va_up h10 61 (va_cpy (h10 32) (h10 61) 0 0 12)
  let h12 : Nat → Nat → Int32 := mvPut (mvPut h11 40 11 (h11 11 11)) 40 12 (h11 11 12)
  have c12 : CF [40, 61] h10 h12 := CF_put (CF_put (CF_up CF_refl rfl) rfl) rfl
  -- what each row is at the end
  have z : ∀ p, ([40, 61].contains p = false) → h12 p = h10 p := fun p hp => c12 p hp
  have y1 : ∀ p, ([40, 61, 49, 50, 51, 52, 53, 54, 55, 56, 57, 58, 59, 60].contains p = false) → h12 p = h6 p := fun p hp => (CF_trans (CF_mono (T := [40, 61, 49, 50, 51, 52, 53, 54, 55, 56, 57, 58, 59, 60]) (by decide) c7) (CF_trans (CF_mono (by decide) c8) (CF_trans (CF_mono (by decide) c9) (CF_trans (CF_mono (by decide) c10) (CF_mono (by decide) c12))))) p hp
  have pt : ∀ k, k ≠ 11 → k ≠ 12 → h12 40 k = h6 40 k := fun k k1 k2 => by
    have e10 : h10 40 = h6 40 := (CF_trans (CF_mono (T := [49, 50, 51, 52, 53, 54, 55, 56, 57, 58, 59, 60]) (by decide) c7) (CF_trans (CF_mono (by decide) c8) (CF_trans (CF_mono (by decide) c9) (CF_mono (by decide) c10)))) 40 rfl
    show va_up (va_up (h10 40) 11 _) 12 _ k = _
    rw [va_up_ne _ _ k2, va_up_ne _ _ k1, e10]
  refine ⟨h12, ?_, CF_trans C010 (CF_mono (by decide) c12), ?_, ?_, ?_, ?_, ⟨?_, ?_, ?_, ?_⟩, ?_, ?_, ?_⟩
  · show avA _ 177 0 [.ref 40, .ref 11] [] _ _
    refine a_aload_1 rfl rfl ?_
    refine a_getr rfl rfl rfl (fun _ _ _ => rfl) rfl ?_
    refine a_iconst (v := (nI 0)) rfl rfl rfl ?_
    refine a_aload_0 rfl rfl ?_
    refine a_getr rfl rfl rfl (fun _ _ _ => rfl) rfl ?_
    refine a_iconst (v := (nI 0)) rfl rfl rfl ?_
    refine a_bipush (v := (nI 30)) rfl rfl rfl ?_
    refine a_copy rfl rfl rfl rfl rfl rfl rfl (by omega) (by omega) (by decide) (Nat.le_of_ble_eq_true rfl) ?_
    refine a_aload_1 rfl rfl ?_
    refine a_getr rfl rfl rfl (fun _ _ _ => rfl) rfl ?_
    refine a_iconst (v := (nI 0)) rfl rfl rfl ?_
    refine a_aload_0 rfl rfl ?_
    refine a_getr rfl rfl rfl (fun _ _ _ => rfl) rfl ?_
    refine a_iconst (v := (nI 0)) rfl rfl rfl ?_
    refine a_bipush (v := (nI 30)) rfl rfl rfl ?_
    refine a_copy rfl rfl rfl rfl rfl rfl rfl (by omega) (by omega) (by decide) (Nat.le_of_ble_eq_true rfl) ?_
    refine a_aload_0 rfl rfl ?_
    refine a_getr rfl rfl rfl (fun _ _ _ => rfl) rfl ?_
    refine a_aload_1 rfl rfl ?_
    refine a_getr rfl rfl rfl (fun _ _ _ => rfl) rfl ?_
    refine a_virt0 rfl rfl (C3) (Nat.le_of_ble_eq_true rfl) ⟨rfl, rfl, rfl, rfl⟩ rfl rfl rfl (Nat.le_of_ble_eq_true rfl) rfl rfl ?_
    refine a_aload_1 rfl rfl ?_
    refine a_getr rfl rfl rfl (fun _ _ _ => rfl) rfl ?_
    refine a_iconst (v := (nI 0)) rfl rfl rfl ?_
    refine a_aload_0 rfl rfl ?_
    refine a_getr rfl rfl rfl (fun _ _ _ => rfl) rfl ?_
    refine a_iconst (v := (nI 0)) rfl rfl rfl ?_
    refine a_aload_0 rfl rfl ?_
    refine a_getr rfl rfl rfl (fun _ _ _ => rfl) rfl ?_
    refine a_alen rfl rfl rfl rfl ?_
    refine a_as (y := nI (1560)) rfl ?_
    refine a_copy rfl rfl rfl rfl rfl rfl rfl (by omega) (by omega) (by decide) (Nat.le_of_ble_eq_true rfl) ?_
    refine a_aload_0 rfl rfl ?_
    refine a_aload_1 rfl rfl ?_
    refine a_geti rfl rfl rfl (fun _ _ _ => rfl) ?_
    refine a_puti rfl rfl rfl rfl ?_
    refine a_aload_0 rfl rfl ?_
    refine a_aload_1 rfl rfl ?_
    refine a_geti rfl rfl rfl (fun _ _ _ => rfl) ?_
    refine a_puti rfl rfl rfl rfl ?_
    refine a_aload_0 rfl rfl ?_
    refine a_getr rfl rfl rfl (fun _ _ _ => rfl) rfl ?_
    refine a_aload_1 rfl rfl ?_
    refine a_getr rfl rfl rfl (fun _ _ _ => rfl) rfl ?_
    refine a_virt0 rfl rfl (C7) (Nat.le_of_ble_eq_true rfl) ⟨rfl, rfl, rfl, rfl⟩ rfl rfl rfl (Nat.le_of_ble_eq_true rfl) rfl rfl ?_
    refine a_aload_0 rfl rfl ?_
    refine a_getr rfl rfl rfl (fun _ _ _ => rfl) rfl ?_
    refine a_aload_1 rfl rfl ?_
    refine a_getr rfl rfl rfl (fun _ _ _ => rfl) rfl ?_
    refine a_virt0 rfl rfl (C8) (Nat.le_of_ble_eq_true rfl) ⟨rfl, rfl, rfl, rfl⟩ rfl rfl rfl (Nat.le_of_ble_eq_true rfl) rfl rfl ?_
    refine a_aload_0 rfl rfl ?_
    refine a_getr rfl rfl rfl (fun _ _ _ => rfl) rfl ?_
    refine a_aload_1 rfl rfl ?_
    refine a_getr rfl rfl rfl (fun _ _ _ => rfl) rfl ?_
    refine a_virt0 rfl rfl (C9) (Nat.le_of_ble_eq_true rfl) ⟨rfl, rfl, rfl, rfl⟩ rfl rfl rfl (Nat.le_of_ble_eq_true rfl) rfl rfl ?_
    refine a_aload_0 rfl rfl ?_
    refine a_getr rfl rfl rfl (fun _ _ _ => rfl) rfl ?_
    refine a_aload_1 rfl rfl ?_
    refine a_getr rfl rfl rfl (fun _ _ _ => rfl) rfl ?_
    refine a_virt0 rfl rfl (C10) (Nat.le_of_ble_eq_true rfl) ⟨rfl, rfl, rfl, rfl⟩ rfl rfl rfl (Nat.le_of_ble_eq_true rfl) rfl rfl ?_
    refine a_aload_1 rfl rfl ?_
    refine a_getr rfl rfl rfl (fun _ _ _ => rfl) rfl ?_
    refine a_iconst (v := (nI 0)) rfl rfl rfl ?_
    refine a_aload_0 rfl rfl ?_
    refine a_getr rfl rfl rfl (fun _ _ _ => rfl) rfl ?_
    refine a_iconst (v := (nI 0)) rfl rfl rfl ?_
    refine a_bipush (v := (nI 12)) rfl rfl rfl ?_
    refine a_copy rfl rfl rfl rfl rfl rfl rfl (by omega) (by omega) (by decide) (Nat.le_of_ble_eq_true rfl) ?_
    refine a_aload_0 rfl rfl ?_
    refine a_aload_1 rfl rfl ?_
    refine a_geti rfl rfl rfl (fun _ _ _ => rfl) ?_
    refine a_puti rfl rfl rfl rfl ?_
    refine a_aload_0 rfl rfl ?_
    refine a_aload_1 rfl rfl ?_
    refine a_geti rfl rfl rfl (fun _ _ _ => rfl) ?_
    refine a_puti rfl rfl rfl rfl ?_
    exact a_vret rfl rfl
  · intro x hx
    have e1 : h12 41 = va_cpy (h 12) (h 41) 0 0 30 := (y1 41 rfl).trans ((c6 41 rfl).trans ((c3 41 rfl)))
    have e2 : h12 42 = va_cpy (h 13) (h 42) 0 0 30 := (y1 42 rfl).trans ((c6 42 rfl).trans ((c3 42 rfl)))
    show h12 41 x = _ ∧ h12 42 x = _
    rw [e1, e2, cpy0 hx, cpy0 hx, Nat.zero_add]
    exact a1 x hx
  · have f : ∀ p, ([43, 44, 45, 46, 47].contains p = true) → h12 p = h3 p := fun p hp => by
      have hp' : p = 43 ∨ p = 44 ∨ p = 45 ∨ p = 46 ∨ p = 47 := by simpa using hp
      rcases hp' with rfl | rfl | rfl | rfl | rfl
      · exact (y1 _ rfl).trans (c6 _ rfl)
      · exact (y1 _ rfl).trans (c6 _ rfl)
      · exact (y1 _ rfl).trans (c6 _ rfl)
      · exact (y1 _ rfl).trans (c6 _ rfl)
      · exact (y1 _ rfl).trans (c6 _ rfl)
    refine MR_copy (s := 14) (h := h) h0 a2 ?_ ?_ ?_ ?_ ?_ (fun b hb => ?_)
    · rw [f 43 rfl]; exact m0
    · rw [f 43 rfl]; exact m1
    · rw [f 43 rfl]; exact m2
    · rw [f 43 rfl]; exact m3
    · rw [f 43 rfl]; exact m4
    · show h12 44 b = _ ∧ h12 45 b = _ ∧ h12 46 b = _
      rw [f 44 rfl, f 45 rfl, f 46 rfl]
      exact mb b hb
  · have f3 : h12 43 = h3 43 := (y1 _ rfl).trans (c6 _ rfl)
    have f7 : h12 47 = h3 47 := (y1 _ rfl).trans (c6 _ rfl)
    refine BK_copy (s := 14) (h := h) a3 (by rw [f3]; exact m9) (by rw [f3]; exact m10) (fun i hi => ?_)
    show h12 47 i = _
    rw [f7]
    exact mk i hi
  · have f8 : h12 48 = va_cpy (h3 19) (h3 48) 0 0 1560 := y1 48 rfl
    have fs : h3 11 = h 11 := (c3 11 rfl).trans (c2 11 rfl)
    have f8s : h3 19 = h 19 := (c3 19 rfl).trans (c2 19 rfl)
    refine PR_copy (s := 11) (h := h) hA a4 ?_ ?_ (fun i hi => ?_)
    · rw [pt 4 (by omega) (by omega)]
      show h3 11 4 = _
      rw [fs]
    · rw [pt 5 (by omega) (by omega)]
      show h3 11 5 = _
      rw [fs]
    · show h12 48 i = h 19 i
      rw [f8, cpy0 hi, Nat.zero_add, f8s]
  · have f : ∀ p, [49, 50, 51].contains p = true → h12 p = h7 p := fun p hp => by
      have hp' : p = 49 ∨ p = 50 ∨ p = 51 := by simpa using hp
      rcases hp' with rfl | rfl | rfl
      · exact (z _ rfl).trans ((c10 _ rfl).trans ((c9 _ rfl).trans (c8 _ rfl)))
      · exact (z _ rfl).trans ((c10 _ rfl).trans ((c9 _ rfl).trans (c8 _ rfl)))
      · exact (z _ rfl).trans ((c10 _ rfl).trans ((c9 _ rfl).trans (c8 _ rfl)))
    refine ⟨by rw [f 49 rfl, q7, w1], fun i hi => ?_⟩
    show h12 50 i = _ ∧ h12 51 i = _
    rw [f 50 rfl, f 51 rfl, (r7 i hi).1, (r7 i hi).2, u 21 rfl, u 22 rfl]
    exact p1.2 i hi
  · have f : ∀ p, [52, 53, 54].contains p = true → h12 p = h8 p := fun p hp => by
      have hp' : p = 52 ∨ p = 53 ∨ p = 54 := by simpa using hp
      rcases hp' with rfl | rfl | rfl
      · exact (z _ rfl).trans ((c10 _ rfl).trans (c9 _ rfl))
      · exact (z _ rfl).trans ((c10 _ rfl).trans (c9 _ rfl))
      · exact (z _ rfl).trans ((c10 _ rfl).trans (c9 _ rfl))
    refine ⟨by rw [f 52 rfl, q8, w3], fun i hi => ?_⟩
    show h12 53 i = _ ∧ h12 54 i = _
    rw [f 53 rfl, f 54 rfl, (r8 i hi).1, (r8 i hi).2, C07 24 rfl, C07 25 rfl]
    exact p2.2 i hi
  · have f : ∀ p, [55, 56, 57].contains p = true → h12 p = h9 p := fun p hp => by
      have hp' : p = 55 ∨ p = 56 ∨ p = 57 := by simpa using hp
      rcases hp' with rfl | rfl | rfl
      · exact (z _ rfl).trans (c10 _ rfl)
      · exact (z _ rfl).trans (c10 _ rfl)
      · exact (z _ rfl).trans (c10 _ rfl)
    refine ⟨by rw [f 55 rfl, q9, w5], fun i hi => ?_⟩
    show h12 56 i = _ ∧ h12 57 i = _
    rw [f 56 rfl, f 57 rfl, (r9 i hi).1, (r9 i hi).2, C08 27 rfl, C08 28 rfl]
    exact p3.2 i hi
  · refine ⟨by rw [z 58 rfl, q10, w7], fun i hi => ?_⟩
    show h12 59 i = _ ∧ h12 60 i = _
    rw [z 59 rfl, z 60 rfl, (r10 i hi).1, (r10 i hi).2, C09 30 rfl, C09 31 rfl]
    exact p4.2 i hi
  · intro m hm
    show va_cpy (h10 32) (h10 61) 0 0 12 m = _
    rw [cpy0 hm, Nat.zero_add, C010 32 rfl]
    exact a6 m hm
  · show h10 11 11 = _
    rw [C010 11 rfl]; exact a7
  · show h10 11 12 = _
    rw [C010 11 rfl]; exact a8
theorem e_pcopy_20 (k : Nat) (hk : k ≤ 6) (e2 : h 49 2 = nI k) : ∃ h', avE 0 178 [.ref 20, .ref 49] (sX L t lt rt rp sw h gl) (none, sX L t lt rt rp sw h' gl) ∧ CF [20, 21, 22] h h' ∧ h' 20 2 = nI k ∧ ∀ i, i < k → h' 21 i = h 50 i ∧ h' 22 i = h 51 i := by
  let h1 : Nat → Nat → Int32 := mvPut h 20 2 (nI k)
  let h2 : Nat → Nat → Int32 := va_up h1 21 (va_cpy (h1 50) (h1 21) 0 0 k)
  let h3 : Nat → Nat → Int32 := va_up h2 22 (va_cpy (h2 51) (h2 22) 0 0 k)
  refine ⟨h3, ?_, CF_up (CF_up (CF_put CF_refl rfl) rfl) rfl, rfl, fun i hi => ⟨?_, ?_⟩⟩
  · show avA _ 178 0 [.ref 20, .ref 49] [] _ _
    refine a_aload_0 rfl rfl ?_
    refine a_aload_1 rfl rfl ?_
    refine a_geti rfl rfl rfl (fun _ _ _ => rfl) ?_
    refine a_as (y := nI (k)) e2 ?_
    refine a_aload_0 rfl rfl ?_
    refine a_getr rfl rfl rfl (fun _ _ _ => rfl) rfl ?_
    refine a_alen rfl rfl rfl rfl ?_
    refine a_minN rfl rfl (Nat.le_of_ble_eq_true rfl) (by omega) (by omega) ?_
    refine a_as (y := nI k) (congrArg nI (by omega)) ?_
    refine a_puti rfl rfl rfl rfl ?_
    refine a_aload_1 rfl rfl ?_
    refine a_getr rfl rfl rfl (fun _ _ _ => rfl) rfl ?_
    refine a_iconst (v := (nI 0)) rfl rfl rfl ?_
    refine a_aload_0 rfl rfl ?_
    refine a_getr rfl rfl rfl (fun _ _ _ => rfl) rfl ?_
    refine a_iconst (v := (nI 0)) rfl rfl rfl ?_
    refine a_aload_0 rfl rfl ?_
    refine a_geti rfl rfl rfl (fun _ _ _ => rfl) ?_
    refine a_as (y := nI (k)) rfl ?_
    refine a_copy rfl rfl rfl rfl rfl rfl rfl (by omega) (by omega) (by decide) (Nat.le_of_ble_eq_true rfl) ?_
    refine a_aload_1 rfl rfl ?_
    refine a_getr rfl rfl rfl (fun _ _ _ => rfl) rfl ?_
    refine a_iconst (v := (nI 0)) rfl rfl rfl ?_
    refine a_aload_0 rfl rfl ?_
    refine a_getr rfl rfl rfl (fun _ _ _ => rfl) rfl ?_
    refine a_iconst (v := (nI 0)) rfl rfl rfl ?_
    refine a_aload_0 rfl rfl ?_
    refine a_geti rfl rfl rfl (fun _ _ _ => rfl) ?_
    refine a_as (y := nI (k)) rfl ?_
    refine a_copy rfl rfl rfl rfl rfl rfl rfl (by omega) (by omega) (by decide) (Nat.le_of_ble_eq_true rfl) ?_
    exact a_vret rfl rfl
  · show va_cpy (h 50) (h 21) 0 0 k i = _
    rw [cpy0 hi, Nat.zero_add]
  · show va_cpy (h 51) (h 22) 0 0 k i = _
    rw [cpy0 hi, Nat.zero_add]
theorem e_pcopy_23 (k : Nat) (hk : k ≤ 6) (e2 : h 52 2 = nI k) : ∃ h', avE 0 178 [.ref 23, .ref 52] (sX L t lt rt rp sw h gl) (none, sX L t lt rt rp sw h' gl) ∧ CF [23, 24, 25] h h' ∧ h' 23 2 = nI k ∧ ∀ i, i < k → h' 24 i = h 53 i ∧ h' 25 i = h 54 i := by
  let h1 : Nat → Nat → Int32 := mvPut h 23 2 (nI k)
  let h2 : Nat → Nat → Int32 := va_up h1 24 (va_cpy (h1 53) (h1 24) 0 0 k)
  let h3 : Nat → Nat → Int32 := va_up h2 25 (va_cpy (h2 54) (h2 25) 0 0 k)
  refine ⟨h3, ?_, CF_up (CF_up (CF_put CF_refl rfl) rfl) rfl, rfl, fun i hi => ⟨?_, ?_⟩⟩
  · show avA _ 178 0 [.ref 23, .ref 52] [] _ _
    refine a_aload_0 rfl rfl ?_
    refine a_aload_1 rfl rfl ?_
    refine a_geti rfl rfl rfl (fun _ _ _ => rfl) ?_
    refine a_as (y := nI (k)) e2 ?_
    refine a_aload_0 rfl rfl ?_
    refine a_getr rfl rfl rfl (fun _ _ _ => rfl) rfl ?_
    refine a_alen rfl rfl rfl rfl ?_
    refine a_minN rfl rfl (Nat.le_of_ble_eq_true rfl) (by omega) (by omega) ?_
    refine a_as (y := nI k) (congrArg nI (by omega)) ?_
    refine a_puti rfl rfl rfl rfl ?_
    refine a_aload_1 rfl rfl ?_
    refine a_getr rfl rfl rfl (fun _ _ _ => rfl) rfl ?_
    refine a_iconst (v := (nI 0)) rfl rfl rfl ?_
    refine a_aload_0 rfl rfl ?_
    refine a_getr rfl rfl rfl (fun _ _ _ => rfl) rfl ?_
    refine a_iconst (v := (nI 0)) rfl rfl rfl ?_
    refine a_aload_0 rfl rfl ?_
    refine a_geti rfl rfl rfl (fun _ _ _ => rfl) ?_
    refine a_as (y := nI (k)) rfl ?_
    refine a_copy rfl rfl rfl rfl rfl rfl rfl (by omega) (by omega) (by decide) (Nat.le_of_ble_eq_true rfl) ?_
    refine a_aload_1 rfl rfl ?_
    refine a_getr rfl rfl rfl (fun _ _ _ => rfl) rfl ?_
    refine a_iconst (v := (nI 0)) rfl rfl rfl ?_
    refine a_aload_0 rfl rfl ?_
    refine a_getr rfl rfl rfl (fun _ _ _ => rfl) rfl ?_
    refine a_iconst (v := (nI 0)) rfl rfl rfl ?_
    refine a_aload_0 rfl rfl ?_
    refine a_geti rfl rfl rfl (fun _ _ _ => rfl) ?_
    refine a_as (y := nI (k)) rfl ?_
    refine a_copy rfl rfl rfl rfl rfl rfl rfl (by omega) (by omega) (by decide) (Nat.le_of_ble_eq_true rfl) ?_
    exact a_vret rfl rfl
  · show va_cpy (h 53) (h 24) 0 0 k i = _
    rw [cpy0 hi, Nat.zero_add]
  · show va_cpy (h 54) (h 25) 0 0 k i = _
    rw [cpy0 hi, Nat.zero_add]
theorem e_pcopy_26 (k : Nat) (hk : k ≤ 8) (e2 : h 55 2 = nI k) : ∃ h', avE 0 178 [.ref 26, .ref 55] (sX L t lt rt rp sw h gl) (none, sX L t lt rt rp sw h' gl) ∧ CF [26, 27, 28] h h' ∧ h' 26 2 = nI k ∧ ∀ i, i < k → h' 27 i = h 56 i ∧ h' 28 i = h 57 i := by
  let h1 : Nat → Nat → Int32 := mvPut h 26 2 (nI k)
  let h2 : Nat → Nat → Int32 := va_up h1 27 (va_cpy (h1 56) (h1 27) 0 0 k)
  let h3 : Nat → Nat → Int32 := va_up h2 28 (va_cpy (h2 57) (h2 28) 0 0 k)
  refine ⟨h3, ?_, CF_up (CF_up (CF_put CF_refl rfl) rfl) rfl, rfl, fun i hi => ⟨?_, ?_⟩⟩
  · show avA _ 178 0 [.ref 26, .ref 55] [] _ _
    refine a_aload_0 rfl rfl ?_
    refine a_aload_1 rfl rfl ?_
    refine a_geti rfl rfl rfl (fun _ _ _ => rfl) ?_
    refine a_as (y := nI (k)) e2 ?_
    refine a_aload_0 rfl rfl ?_
    refine a_getr rfl rfl rfl (fun _ _ _ => rfl) rfl ?_
    refine a_alen rfl rfl rfl rfl ?_
    refine a_minN rfl rfl (Nat.le_of_ble_eq_true rfl) (by omega) (by omega) ?_
    refine a_as (y := nI k) (congrArg nI (by omega)) ?_
    refine a_puti rfl rfl rfl rfl ?_
    refine a_aload_1 rfl rfl ?_
    refine a_getr rfl rfl rfl (fun _ _ _ => rfl) rfl ?_
    refine a_iconst (v := (nI 0)) rfl rfl rfl ?_
    refine a_aload_0 rfl rfl ?_
    refine a_getr rfl rfl rfl (fun _ _ _ => rfl) rfl ?_
    refine a_iconst (v := (nI 0)) rfl rfl rfl ?_
    refine a_aload_0 rfl rfl ?_
    refine a_geti rfl rfl rfl (fun _ _ _ => rfl) ?_
    refine a_as (y := nI (k)) rfl ?_
    refine a_copy rfl rfl rfl rfl rfl rfl rfl (by omega) (by omega) (by decide) (Nat.le_of_ble_eq_true rfl) ?_
    refine a_aload_1 rfl rfl ?_
    refine a_getr rfl rfl rfl (fun _ _ _ => rfl) rfl ?_
    refine a_iconst (v := (nI 0)) rfl rfl rfl ?_
    refine a_aload_0 rfl rfl ?_
    refine a_getr rfl rfl rfl (fun _ _ _ => rfl) rfl ?_
    refine a_iconst (v := (nI 0)) rfl rfl rfl ?_
    refine a_aload_0 rfl rfl ?_
    refine a_geti rfl rfl rfl (fun _ _ _ => rfl) ?_
    refine a_as (y := nI (k)) rfl ?_
    refine a_copy rfl rfl rfl rfl rfl rfl rfl (by omega) (by omega) (by decide) (Nat.le_of_ble_eq_true rfl) ?_
    exact a_vret rfl rfl
  · show va_cpy (h 56) (h 27) 0 0 k i = _
    rw [cpy0 hi, Nat.zero_add]
  · show va_cpy (h 57) (h 28) 0 0 k i = _
    rw [cpy0 hi, Nat.zero_add]
theorem e_pcopy_29 (k : Nat) (hk : k ≤ 8) (e2 : h 58 2 = nI k) : ∃ h', avE 0 178 [.ref 29, .ref 58] (sX L t lt rt rp sw h gl) (none, sX L t lt rt rp sw h' gl) ∧ CF [29, 30, 31] h h' ∧ h' 29 2 = nI k ∧ ∀ i, i < k → h' 30 i = h 59 i ∧ h' 31 i = h 60 i := by
  let h1 : Nat → Nat → Int32 := mvPut h 29 2 (nI k)
  let h2 : Nat → Nat → Int32 := va_up h1 30 (va_cpy (h1 59) (h1 30) 0 0 k)
  let h3 : Nat → Nat → Int32 := va_up h2 31 (va_cpy (h2 60) (h2 31) 0 0 k)
  refine ⟨h3, ?_, CF_up (CF_up (CF_put CF_refl rfl) rfl) rfl, rfl, fun i hi => ⟨?_, ?_⟩⟩
  · show avA _ 178 0 [.ref 29, .ref 58] [] _ _
    refine a_aload_0 rfl rfl ?_
    refine a_aload_1 rfl rfl ?_
    refine a_geti rfl rfl rfl (fun _ _ _ => rfl) ?_
    refine a_as (y := nI (k)) e2 ?_
    refine a_aload_0 rfl rfl ?_
    refine a_getr rfl rfl rfl (fun _ _ _ => rfl) rfl ?_
    refine a_alen rfl rfl rfl rfl ?_
    refine a_minN rfl rfl (Nat.le_of_ble_eq_true rfl) (by omega) (by omega) ?_
    refine a_as (y := nI k) (congrArg nI (by omega)) ?_
    refine a_puti rfl rfl rfl rfl ?_
    refine a_aload_1 rfl rfl ?_
    refine a_getr rfl rfl rfl (fun _ _ _ => rfl) rfl ?_
    refine a_iconst (v := (nI 0)) rfl rfl rfl ?_
    refine a_aload_0 rfl rfl ?_
    refine a_getr rfl rfl rfl (fun _ _ _ => rfl) rfl ?_
    refine a_iconst (v := (nI 0)) rfl rfl rfl ?_
    refine a_aload_0 rfl rfl ?_
    refine a_geti rfl rfl rfl (fun _ _ _ => rfl) ?_
    refine a_as (y := nI (k)) rfl ?_
    refine a_copy rfl rfl rfl rfl rfl rfl rfl (by omega) (by omega) (by decide) (Nat.le_of_ble_eq_true rfl) ?_
    refine a_aload_1 rfl rfl ?_
    refine a_getr rfl rfl rfl (fun _ _ _ => rfl) rfl ?_
    refine a_iconst (v := (nI 0)) rfl rfl rfl ?_
    refine a_aload_0 rfl rfl ?_
    refine a_getr rfl rfl rfl (fun _ _ _ => rfl) rfl ?_
    refine a_iconst (v := (nI 0)) rfl rfl rfl ?_
    refine a_aload_0 rfl rfl ?_
    refine a_geti rfl rfl rfl (fun _ _ _ => rfl) ?_
    refine a_as (y := nI (k)) rfl ?_
    refine a_copy rfl rfl rfl rfl rfl rfl rfl (by omega) (by omega) (by decide) (Nat.le_of_ble_eq_true rfl) ?_
    exact a_vret rfl rfl
  · show va_cpy (h 59) (h 30) 0 0 k i = _
    rw [cpy0 hi, Nat.zero_add]
  · show va_cpy (h 60) (h 31) 0 0 k i = _
    rw [cpy0 hi, Nat.zero_add]
theorem e_hcopy_11 (hA : rOK A) (H : HR 40 A h) : ∃ h', avE 1 177 [.ref 11, .ref 40] (sX L t lt rt rp sw h gl) (none, sX L t lt rt rp sw h' gl) ∧ CF (r22 11) h h' ∧ HR 11 A h' := by
  obtain ⟨a1, a2, a3, a4, ⟨p1, p2, p3, p4⟩, a6, a7, a8⟩ := H
  have h0 := gN_le (m := 5) hA (i := 0) (by omega) (by decide)
  have k1 : ∀ c m, c < 1726 → 0 ≤ (bnd c).1 → (bnd c).2 ≤ ((m : Nat) : Int) → A c = nI (gN A c) ∧ gN A c ≤ m := fun c m h1 h2 h3 => ⟨gN_eq hA h1 h2, gN_le hA h1 h3⟩
  let h1 : Nat → Nat → Int32 := va_up h 12 (va_cpy (h 41) (h 12) 0 0 30)
  let h2 : Nat → Nat → Int32 := va_up h1 13 (va_cpy (h1 42) (h1 13) 0 0 30)
  have c2 : CF [12, 13] h h2 := CF_up (CF_up CF_refl rfl) rfl
  obtain ⟨h3, C3, c3, ⟨m0, m1, m2, m3, m4, m9, m10⟩, mb, mk⟩ := e_mcopy_14_43 (L := L) (t := t) (lt := lt) (rt := rt) (rp := rp) (sw := sw) (gl := gl) (h := h2)
  let h4 : Nat → Nat → Int32 := va_up h3 19 (va_cpy (h3 48) (h3 19) 0 0 1560)
  let h6 : Nat → Nat → Int32 := mvPut (mvPut h4 11 4 (h4 40 4)) 11 5 (h4 40 5)
  have c6 : CF [11, 19] h3 h6 := CF_put (CF_put (CF_up CF_refl rfl) rfl) rfl
  have C06 := CF_trans (CF_mono (T := r22 11) (by decide) c2) (CF_trans (CF_mono (T := r22 11) (by decide) c3) (CF_mono (T := r22 11) (by decide) c6))
  have u : ∀ p, (r22 11).contains p = false → h6 p = h p := fun p hp => C06 p hp
  obtain ⟨w1, w2⟩ := k1 4 6 (by omega) (by decide) (by decide)
  obtain ⟨w3, w4⟩ := k1 5 6 (by omega) (by decide) (by decide)
  obtain ⟨w5, w6⟩ := k1 6 8 (by omega) (by decide) (by decide)
  obtain ⟨w7, w8⟩ := k1 7 8 (by omega) (by decide) (by decide)
  obtain ⟨h7, C7, c7, q7, r7⟩ := e_pcopy_20 (L := L) (t := t) (lt := lt) (rt := rt) (rp := rp) (sw := sw) (gl := gl) (h := h6) (gN A 4) w2 (by rw [u 49 rfl]; exact p1.1.trans w1)
  have C07 := CF_trans C06 (CF_mono (T := r22 11) (by decide) c7)
  obtain ⟨h8, C8, c8, q8, r8⟩ := e_pcopy_23 (L := L) (t := t) (lt := lt) (rt := rt) (rp := rp) (sw := sw) (gl := gl) (h := h7) (gN A 5) w4 (by rw [C07 52 rfl]; exact p2.1.trans w3)
  have C08 := CF_trans C07 (CF_mono (T := r22 11) (by decide) c8)
  obtain ⟨h9, C9, c9, q9, r9⟩ := e_pcopy_26 (L := L) (t := t) (lt := lt) (rt := rt) (rp := rp) (sw := sw) (gl := gl) (h := h8) (gN A 6) w6 (by rw [C08 55 rfl]; exact p3.1.trans w5)
  have C09 := CF_trans C08 (CF_mono (T := r22 11) (by decide) c9)
  obtain ⟨h10, C10, c10, q10, r10⟩ := e_pcopy_29 (L := L) (t := t) (lt := lt) (rt := rt) (rp := rp) (sw := sw) (gl := gl) (h := h9) (gN A 7) w8 (by rw [C09 58 rfl]; exact p4.1.trans w7)
  have C010 := CF_trans C09 (CF_mono (T := r22 11) (by decide) c10)
  let h11 : Nat → Nat → Int32 := va_up h10 32 (va_cpy (h10 61) (h10 32) 0 0 12)
  let h12 : Nat → Nat → Int32 := mvPut (mvPut h11 11 11 (h11 40 11)) 11 12 (h11 40 12)
  have c12 : CF [11, 32] h10 h12 := CF_put (CF_put (CF_up CF_refl rfl) rfl) rfl
  -- what each row is at the end
  have z : ∀ p, ([11, 32].contains p = false) → h12 p = h10 p := fun p hp => c12 p hp
  have y1 : ∀ p, ([11, 32, 20, 21, 22, 23, 24, 25, 26, 27, 28, 29, 30, 31].contains p = false) → h12 p = h6 p := fun p hp => (CF_trans (CF_mono (T := [11, 32, 20, 21, 22, 23, 24, 25, 26, 27, 28, 29, 30, 31]) (by decide) c7) (CF_trans (CF_mono (by decide) c8) (CF_trans (CF_mono (by decide) c9) (CF_trans (CF_mono (by decide) c10) (CF_mono (by decide) c12))))) p hp
  have pt : ∀ k, k ≠ 11 → k ≠ 12 → h12 11 k = h6 11 k := fun k k1 k2 => by
    have e10 : h10 11 = h6 11 := (CF_trans (CF_mono (T := [20, 21, 22, 23, 24, 25, 26, 27, 28, 29, 30, 31]) (by decide) c7) (CF_trans (CF_mono (by decide) c8) (CF_trans (CF_mono (by decide) c9) (CF_mono (by decide) c10)))) 11 rfl
    show va_up (va_up (h10 11) 11 _) 12 _ k = _
    rw [va_up_ne _ _ k2, va_up_ne _ _ k1, e10]
  refine ⟨h12, ?_, CF_trans C010 (CF_mono (by decide) c12), ?_, ?_, ?_, ?_, ⟨?_, ?_, ?_, ?_⟩, ?_, ?_, ?_⟩
  · show avA _ 177 0 [.ref 11, .ref 40] [] _ _
    refine a_aload_1 rfl rfl ?_
    refine a_getr rfl rfl rfl (fun _ _ _ => rfl) rfl ?_
    refine a_iconst (v := (nI 0)) rfl rfl rfl ?_
    refine a_aload_0 rfl rfl ?_
    refine a_getr rfl rfl rfl (fun _ _ _ => rfl) rfl ?_
    refine a_iconst (v := (nI 0)) rfl rfl rfl ?_
    refine a_bipush (v := (nI 30)) rfl rfl rfl ?_
    refine a_copy rfl rfl rfl rfl rfl rfl rfl (by omega) (by omega) (by decide) (Nat.le_of_ble_eq_true rfl) ?_
    refine a_aload_1 rfl rfl ?_
    refine a_getr rfl rfl rfl (fun _ _ _ => rfl) rfl ?_
    refine a_iconst (v := (nI 0)) rfl rfl rfl ?_
    refine a_aload_0 rfl rfl ?_
    refine a_getr rfl rfl rfl (fun _ _ _ => rfl) rfl ?_
    refine a_iconst (v := (nI 0)) rfl rfl rfl ?_
    refine a_bipush (v := (nI 30)) rfl rfl rfl ?_
    refine a_copy rfl rfl rfl rfl rfl rfl rfl (by omega) (by omega) (by decide) (Nat.le_of_ble_eq_true rfl) ?_
    refine a_aload_0 rfl rfl ?_
    refine a_getr rfl rfl rfl (fun _ _ _ => rfl) rfl ?_
    refine a_aload_1 rfl rfl ?_
    refine a_getr rfl rfl rfl (fun _ _ _ => rfl) rfl ?_
    refine a_virt0 rfl rfl (C3) (Nat.le_of_ble_eq_true rfl) ⟨rfl, rfl, rfl, rfl⟩ rfl rfl rfl (Nat.le_of_ble_eq_true rfl) rfl rfl ?_
    refine a_aload_1 rfl rfl ?_
    refine a_getr rfl rfl rfl (fun _ _ _ => rfl) rfl ?_
    refine a_iconst (v := (nI 0)) rfl rfl rfl ?_
    refine a_aload_0 rfl rfl ?_
    refine a_getr rfl rfl rfl (fun _ _ _ => rfl) rfl ?_
    refine a_iconst (v := (nI 0)) rfl rfl rfl ?_
    refine a_aload_0 rfl rfl ?_
    refine a_getr rfl rfl rfl (fun _ _ _ => rfl) rfl ?_
    refine a_alen rfl rfl rfl rfl ?_
    refine a_as (y := nI (1560)) rfl ?_
    refine a_copy rfl rfl rfl rfl rfl rfl rfl (by omega) (by omega) (by decide) (Nat.le_of_ble_eq_true rfl) ?_
    refine a_aload_0 rfl rfl ?_
    refine a_aload_1 rfl rfl ?_
    refine a_geti rfl rfl rfl (fun _ _ _ => rfl) ?_
    refine a_puti rfl rfl rfl rfl ?_
    refine a_aload_0 rfl rfl ?_
    refine a_aload_1 rfl rfl ?_
    refine a_geti rfl rfl rfl (fun _ _ _ => rfl) ?_
    refine a_puti rfl rfl rfl rfl ?_
    refine a_aload_0 rfl rfl ?_
    refine a_getr rfl rfl rfl (fun _ _ _ => rfl) rfl ?_
    refine a_aload_1 rfl rfl ?_
    refine a_getr rfl rfl rfl (fun _ _ _ => rfl) rfl ?_
    refine a_virt0 rfl rfl (C7) (Nat.le_of_ble_eq_true rfl) ⟨rfl, rfl, rfl, rfl⟩ rfl rfl rfl (Nat.le_of_ble_eq_true rfl) rfl rfl ?_
    refine a_aload_0 rfl rfl ?_
    refine a_getr rfl rfl rfl (fun _ _ _ => rfl) rfl ?_
    refine a_aload_1 rfl rfl ?_
    refine a_getr rfl rfl rfl (fun _ _ _ => rfl) rfl ?_
    refine a_virt0 rfl rfl (C8) (Nat.le_of_ble_eq_true rfl) ⟨rfl, rfl, rfl, rfl⟩ rfl rfl rfl (Nat.le_of_ble_eq_true rfl) rfl rfl ?_
    refine a_aload_0 rfl rfl ?_
    refine a_getr rfl rfl rfl (fun _ _ _ => rfl) rfl ?_
    refine a_aload_1 rfl rfl ?_
    refine a_getr rfl rfl rfl (fun _ _ _ => rfl) rfl ?_
    refine a_virt0 rfl rfl (C9) (Nat.le_of_ble_eq_true rfl) ⟨rfl, rfl, rfl, rfl⟩ rfl rfl rfl (Nat.le_of_ble_eq_true rfl) rfl rfl ?_
    refine a_aload_0 rfl rfl ?_
    refine a_getr rfl rfl rfl (fun _ _ _ => rfl) rfl ?_
    refine a_aload_1 rfl rfl ?_
    refine a_getr rfl rfl rfl (fun _ _ _ => rfl) rfl ?_
    refine a_virt0 rfl rfl (C10) (Nat.le_of_ble_eq_true rfl) ⟨rfl, rfl, rfl, rfl⟩ rfl rfl rfl (Nat.le_of_ble_eq_true rfl) rfl rfl ?_
    refine a_aload_1 rfl rfl ?_
    refine a_getr rfl rfl rfl (fun _ _ _ => rfl) rfl ?_
    refine a_iconst (v := (nI 0)) rfl rfl rfl ?_
    refine a_aload_0 rfl rfl ?_
    refine a_getr rfl rfl rfl (fun _ _ _ => rfl) rfl ?_
    refine a_iconst (v := (nI 0)) rfl rfl rfl ?_
    refine a_bipush (v := (nI 12)) rfl rfl rfl ?_
    refine a_copy rfl rfl rfl rfl rfl rfl rfl (by omega) (by omega) (by decide) (Nat.le_of_ble_eq_true rfl) ?_
    refine a_aload_0 rfl rfl ?_
    refine a_aload_1 rfl rfl ?_
    refine a_geti rfl rfl rfl (fun _ _ _ => rfl) ?_
    refine a_puti rfl rfl rfl rfl ?_
    refine a_aload_0 rfl rfl ?_
    refine a_aload_1 rfl rfl ?_
    refine a_geti rfl rfl rfl (fun _ _ _ => rfl) ?_
    refine a_puti rfl rfl rfl rfl ?_
    exact a_vret rfl rfl
  · intro x hx
    have e1 : h12 12 = va_cpy (h 41) (h 12) 0 0 30 := (y1 12 rfl).trans ((c6 12 rfl).trans ((c3 12 rfl)))
    have e2 : h12 13 = va_cpy (h 42) (h 13) 0 0 30 := (y1 13 rfl).trans ((c6 13 rfl).trans ((c3 13 rfl)))
    show h12 12 x = _ ∧ h12 13 x = _
    rw [e1, e2, cpy0 hx, cpy0 hx, Nat.zero_add]
    exact a1 x hx
  · have f : ∀ p, ([14, 15, 16, 17, 18].contains p = true) → h12 p = h3 p := fun p hp => by
      have hp' : p = 14 ∨ p = 15 ∨ p = 16 ∨ p = 17 ∨ p = 18 := by simpa using hp
      rcases hp' with rfl | rfl | rfl | rfl | rfl
      · exact (y1 _ rfl).trans (c6 _ rfl)
      · exact (y1 _ rfl).trans (c6 _ rfl)
      · exact (y1 _ rfl).trans (c6 _ rfl)
      · exact (y1 _ rfl).trans (c6 _ rfl)
      · exact (y1 _ rfl).trans (c6 _ rfl)
    refine MR_copy (s := 43) (h := h) h0 a2 ?_ ?_ ?_ ?_ ?_ (fun b hb => ?_)
    · rw [f 14 rfl]; exact m0
    · rw [f 14 rfl]; exact m1
    · rw [f 14 rfl]; exact m2
    · rw [f 14 rfl]; exact m3
    · rw [f 14 rfl]; exact m4
    · show h12 15 b = _ ∧ h12 16 b = _ ∧ h12 17 b = _
      rw [f 15 rfl, f 16 rfl, f 17 rfl]
      exact mb b hb
  · have f3 : h12 14 = h3 14 := (y1 _ rfl).trans (c6 _ rfl)
    have f7 : h12 18 = h3 18 := (y1 _ rfl).trans (c6 _ rfl)
    refine BK_copy (s := 43) (h := h) a3 (by rw [f3]; exact m9) (by rw [f3]; exact m10) (fun i hi => ?_)
    show h12 18 i = _
    rw [f7]
    exact mk i hi
  · have f8 : h12 19 = va_cpy (h3 48) (h3 19) 0 0 1560 := y1 19 rfl
    have fs : h3 40 = h 40 := (c3 40 rfl).trans (c2 40 rfl)
    have f8s : h3 48 = h 48 := (c3 48 rfl).trans (c2 48 rfl)
    refine PR_copy (s := 40) (h := h) hA a4 ?_ ?_ (fun i hi => ?_)
    · rw [pt 4 (by omega) (by omega)]
      show h3 40 4 = _
      rw [fs]
    · rw [pt 5 (by omega) (by omega)]
      show h3 40 5 = _
      rw [fs]
    · show h12 19 i = h 48 i
      rw [f8, cpy0 hi, Nat.zero_add, f8s]
  · have f : ∀ p, [20, 21, 22].contains p = true → h12 p = h7 p := fun p hp => by
      have hp' : p = 20 ∨ p = 21 ∨ p = 22 := by simpa using hp
      rcases hp' with rfl | rfl | rfl
      · exact (z _ rfl).trans ((c10 _ rfl).trans ((c9 _ rfl).trans (c8 _ rfl)))
      · exact (z _ rfl).trans ((c10 _ rfl).trans ((c9 _ rfl).trans (c8 _ rfl)))
      · exact (z _ rfl).trans ((c10 _ rfl).trans ((c9 _ rfl).trans (c8 _ rfl)))
    refine ⟨by rw [f 20 rfl, q7, w1], fun i hi => ?_⟩
    show h12 21 i = _ ∧ h12 22 i = _
    rw [f 21 rfl, f 22 rfl, (r7 i hi).1, (r7 i hi).2, u 50 rfl, u 51 rfl]
    exact p1.2 i hi
  · have f : ∀ p, [23, 24, 25].contains p = true → h12 p = h8 p := fun p hp => by
      have hp' : p = 23 ∨ p = 24 ∨ p = 25 := by simpa using hp
      rcases hp' with rfl | rfl | rfl
      · exact (z _ rfl).trans ((c10 _ rfl).trans (c9 _ rfl))
      · exact (z _ rfl).trans ((c10 _ rfl).trans (c9 _ rfl))
      · exact (z _ rfl).trans ((c10 _ rfl).trans (c9 _ rfl))
    refine ⟨by rw [f 23 rfl, q8, w3], fun i hi => ?_⟩
    show h12 24 i = _ ∧ h12 25 i = _
    rw [f 24 rfl, f 25 rfl, (r8 i hi).1, (r8 i hi).2, C07 53 rfl, C07 54 rfl]
    exact p2.2 i hi
  · have f : ∀ p, [26, 27, 28].contains p = true → h12 p = h9 p := fun p hp => by
      have hp' : p = 26 ∨ p = 27 ∨ p = 28 := by simpa using hp
      rcases hp' with rfl | rfl | rfl
      · exact (z _ rfl).trans (c10 _ rfl)
      · exact (z _ rfl).trans (c10 _ rfl)
      · exact (z _ rfl).trans (c10 _ rfl)
    refine ⟨by rw [f 26 rfl, q9, w5], fun i hi => ?_⟩
    show h12 27 i = _ ∧ h12 28 i = _
    rw [f 27 rfl, f 28 rfl, (r9 i hi).1, (r9 i hi).2, C08 56 rfl, C08 57 rfl]
    exact p3.2 i hi
  · refine ⟨by rw [z 29 rfl, q10, w7], fun i hi => ?_⟩
    show h12 30 i = _ ∧ h12 31 i = _
    rw [z 30 rfl, z 31 rfl, (r10 i hi).1, (r10 i hi).2, C09 59 rfl, C09 60 rfl]
    exact p4.2 i hi
  · intro m hm
    show va_cpy (h10 61) (h10 32) 0 0 12 m = _
    rw [cpy0 hm, Nat.zero_add, C010 61 rfl]
    exact a6 m hm
  · show h10 40 11 = _
    rw [C010 40 rfl]; exact a7
  · show h10 40 12 = _
    rw [C010 40 rfl]; exact a8
theorem l_rcopy (o q : Nat) (F G : Nat → Int32) (ho : (lyMe L t).2.2 o = (20, 1726)) (hq : (lyMe L t).2.2 q = (20, 1726)) (e : ∀ X, (va_up h q X) o = F ∨ o = q) (hoq : o ≠ q) (m : Nat) : ∀ i, i + m = 1726 → avA 0 182 2 [.ref o, .ref q, .int (nI i)] [] (sX L t lt rt rp sw (va_up h q (rw1 i F G)) gl) (none, sX L t lt rt rp sw (va_up h q (rw1 1726 F G)) gl) := by
  induction m with
  | zero =>
    intro i hi
    have e : i = 1726 := by omega
    subst e
    refine a_iload_2 rfl rfl ?_
    refine a_sipush (v := (nI 1726)) rfl rfl rfl ?_
    refine a_cmpN_ge rfl rfl rfl (by omega) (by omega) (fun _ => ?_) (fun c_6 => absurd c_6 (by decide))
    exact a_vret rfl rfl
  | succ m ih =>
    intro i hi
    have ev : (va_up h q (rw1 i F G)) o i = F i := by
      rcases e (rw1 i F G) with w | w
      · rw [w]
      · exact absurd w hoq
    have ho' : ((lyMe L t).2.2 o).1 = 20 := by rw [ho]
    have hq' : ((lyMe L t).2.2 q).1 = 20 := by rw [hq]
    refine a_iload_2 rfl rfl ?_
    refine a_sipush (v := (nI 1726)) rfl rfl rfl ?_
    refine a_cmpN_ge rfl rfl rfl (by omega) (by omega) (fun c_6 => False.elim (by omega)) (fun _ => ?_)
    refine a_aload_1 rfl rfl ?_
    refine a_iload_2 rfl rfl ?_
    refine a_aload_0 rfl rfl ?_
    refine a_iload_2 rfl rfl ?_
    refine a_iald rfl rfl (Or.inl ho) rfl (by omega) (by decide) ?_
    refine a_as (y := F i) ev ?_
    refine a_iast rfl rfl hq rfl (by omega) (by decide) ?_
    rw [up_put, rw1_s _ _ _ rfl]
    refine a_iinc_2 rfl rfl (nI_inc _ _) rfl ?_
    refine a_goto rfl rfl ?_
    exact ih (i + 1) (by omega)
end IM
section I2
variable {A B : Nat → Int32} {TX : Nat → Txt}
theorem okA_like {A A' : Nat → Int32} (H : okA A) (e : ∀ i, i < 1726 → A' i = A i) : okA A' := by
  obtain ⟨a, u, c⟩ := H
  refine ⟨fun i hi => by rw [e i hi]; exact a i hi, UI_A a u (e 0 (by omega)) (e 3 (by omega)) (fun i h1 h2 => e i (by omega)) (fun i h1 h2 => e i (by omega)), ?_⟩
  rw [e 1 (by omega), e 2 (by omega)]
  exact c
theorem HR_like {o : Nat} {A A' : Nat → Int32} {h : Nat → Nat → Int32} (hA : rOK A) (H : HR o A h) (e : ∀ i, i < 1726 → A' i = A i) : HR o A' h := by
  have sm : ∀ a b, b ≤ 1726 → same A A' a b := fun a b hb i h1 h2 => e i (by omega)
  exact HR_gen (S := []) hA H CF_refl (Or.inl ⟨rfl, sm _ _ (by omega)⟩) (Or.inl ⟨rfl, e 0 (by omega), sm _ _ (by omega), sm _ _ (by omega)⟩) (Or.inl ⟨rfl, e 12 (by omega), sm _ _ (by omega)⟩) (Or.inl ⟨rfl, e 3 (by omega), sm _ _ (by omega)⟩) (Or.inl ⟨rfl, e 4 (by omega), sm _ _ (by omega)⟩) (Or.inl ⟨rfl, e 5 (by omega), sm _ _ (by omega)⟩) (Or.inl ⟨rfl, e 6 (by omega), sm _ _ (by omega)⟩) (Or.inl ⟨rfl, e 7 (by omega), sm _ _ (by omega)⟩) (Or.inl ⟨rfl, sm _ _ (by omega)⟩) (H.2.2.2.2.2.2.1.trans (e 2 (by omega)).symm) (H.2.2.2.2.2.2.2.trans (e 1 (by omega)).symm)
theorem p_image (hA : okA A) : ∃ r, opP 0 2 176 [.ref 7] 1 320 [.ref 81] TX A B r A (rw1 1726 A B) := by
  have like : ∀ i, i < 1726 → rw1 1726 A B i = A i := fun i hi => rw1_lt hi
  refine ⟨A 8, ?_, ?_, hA, rfl⟩
  · intro L t lt rt rp sw h gl R H hR
    obtain ⟨h', C, c, H40⟩ := e_hcopy_40 (L := L) (t := t) (lt := lt) (rt := rt) (rp := rp) (sw := sw) (gl := gl) H.1.1 H.2.2.2.1
    have g1 : gN (rw1 1726 A B) 1 = gN A 1 := gN_c (like 1 (by omega))
    have h8 : h' 14 2 = A 8 := by rw [c 14 rfl]; exact H.2.2.2.1.2.1.2.2.1
    have nt := H.2.2.1
    refine ⟨h', lt, R, sw, ?_, CF_cl rfl c, ⟨H.1, okA_like H.1 like, by omega, HR_av H.2.2.2.1 rfl c, HR_like H.1.1 H40 like, fun x hx => txC_fr (fun p hp => c p (lo98_of rfl hp)) (by omega) (H.2.2.2.2.2.1 x hx), LI_cf H.2.2.2.2.2.2 rfl c⟩, by omega, by omega⟩
    show avA _ 176 0 [.ref 7] [] _ _
    refine a_aload_0 rfl rfl ?_
    refine a_getr rfl rfl rfl (fun _ _ _ => rfl) rfl ?_
    refine a_aload_0 rfl rfl ?_
    refine a_getr rfl rfl rfl (fun _ _ _ => rfl) rfl ?_
    refine a_virt0 rfl rfl (C) (Nat.le_of_ble_eq_true rfl) ⟨rfl, rfl, rfl, rfl⟩ rfl rfl rfl (Nat.le_of_ble_eq_true rfl) rfl rfl ?_
    refine a_aload_0 rfl rfl ?_
    refine a_getr rfl rfl rfl (fun _ _ _ => rfl) rfl ?_
    refine a_getr rfl rfl rfl (fun _ _ _ => rfl) rfl ?_
    refine a_geti rfl rfl rfl (fun _ _ _ => rfl) ?_
    refine a_as (y := A 8) h8 ?_
    exact a_iret rfl rfl
  · intro L t lt rt rp sw h gl ok H
    have C : avE 0 182 [.ref 82, .ref 83] (sX L t lt rt rp sw h gl) (none, sX L t lt rt rp sw (va_up h 83 (rw1 1726 A B)) gl) := by
      have Z := l_rcopy (L := L) (t := t) (lt := lt) (rt := rt) (rp := rp) (sw := sw) (h := h) (gl := gl) 82 83 A B rfl rfl (fun X => Or.inl H.1) (by decide) 1726 0 rfl
      rw [rw1_0, ← H.2.1, up_id] at Z
      rw [← H.2.1]
      show avA _ 182 0 [.ref 82, .ref 83, mvU] [] _ _
      refine a_iconst (v := (nI 0)) rfl rfl rfl ?_
      refine a_istore_2 rfl rfl rfl ?_
      exact Z
    refine ⟨va_up h 83 (rw1 1726 A B), gl, ?_, CF_up CF_refl rfl, fun _ _ => rfl, H.1, rfl, H.2.2.1, H.2.2.2⟩
    show avA _ 320 0 [.ref 81] [] _ _
    refine a_aload_0 rfl rfl ?_
    refine a_getr rfl rfl rfl (fun _ _ _ => rfl) rfl ?_
    refine a_aload_0 rfl rfl ?_
    refine a_getr rfl rfl rfl (fun _ _ _ => rfl) rfl ?_
    refine a_stat0 rfl rfl (C) (Nat.le_of_ble_eq_true rfl) ⟨rfl, rfl, rfl⟩ rfl rfl rfl (Nat.le_of_ble_eq_true rfl) rfl ?_
    refine a_aload_0 rfl rfl ?_
    refine a_getr rfl rfl rfl (fun _ _ _ => rfl) rfl ?_
    refine a_bipush (v := (nI 8)) rfl rfl rfl ?_
    refine a_iald rfl rfl (Or.inl rfl) rfl (by omega) (by decide) ?_
    refine a_as (y := A 8) (show h 82 8 = A 8 by rw [H.1]) ?_
    exact a_iret rfl rfl
theorem p_back (hA : okA A) (hB : okA B) (hAB : gN B 1 ≤ gN A 1) : ∃ r, opC 1 2 179 [.ref 7] TX A B r (rw1 1726 B A) B ∧ opR 1 321 [.ref 81] TX A B r (rw1 1726 B A) B ∧ okA (rw1 1726 B A) := by
  have like : ∀ i, i < 1726 → rw1 1726 B A i = B i := fun i hi => rw1_lt hi
  have g1 : gN (rw1 1726 B A) 1 = gN B 1 := gN_c (like 1 (by omega))
  refine ⟨B 8, ?_, ?_, okA_like hB like⟩
  · intro L t lt rt rp sw h gl R H hR
    obtain ⟨h1, C, c, H11⟩ := e_hcopy_11 (L := L) (t := t) (lt := lt) (rt := rt) (rp := rp) (sw := sw) (gl := gl) H.2.1.1 H.2.2.2.2.1
    obtain ⟨F, C2, P⟩ := e_cellsChanged (L := L) (t := t) (lt := lt) (rt := rt) (rp := rp) (sw := sw) (h := h1) (gl := gl) (frA A) (by rw [c 9 rfl, c 10 rfl]; exact CI_rP H)
    have c2 : CF [8, 9] h1 (mvPut (va_up h1 9 F) 8 9 (h1 8 9 + nI 1)) := CF_put (CF_up CF_refl rfl) rfl
    have c3 := CF_trans (CF_mono (T := 8 :: 9 :: r22 11) (by decide) c) (CF_mono (T := 8 :: 9 :: r22 11) (by decide) c2)
    have h8 : h1 14 2 = B 8 := H11.2.1.2.2.1
    have nt := H.2.2.1
    refine ⟨_, lt, R + 1, sw, ?_, CF_cl rfl c3, ⟨okA_like H.2.1 like, H.2.1, by omega, HR_like H.2.1.1 (HR_av (S := [8, 9]) H11 rfl c2) like, HR_av H.2.2.2.2.1 rfl c3, fun x hx => txC_fr (fun p hp => c3 p (lo98_of rfl hp)) (by omega) (H.2.2.2.2.2.1 x (by omega)), LI_forget (TX := TX) (h := h1) (LI_cf H.2.2.2.2.2.2 rfl c) hR rfl rfl (rPth_ext (op := noW (h1 12)) (F := F) (G := h1 10) (fun j hj => ?_) P)⟩, by omega, by omega⟩
    · show avA _ 179 0 [.ref 7] [] _ _
      refine a_aload_0 rfl rfl ?_
      refine a_getr rfl rfl rfl (fun _ _ _ => rfl) rfl ?_
      refine a_aload_0 rfl rfl ?_
      refine a_getr rfl rfl rfl (fun _ _ _ => rfl) rfl ?_
      refine a_virt0 rfl rfl (C) (Nat.le_of_ble_eq_true rfl) ⟨rfl, rfl, rfl, rfl⟩ rfl rfl rfl (Nat.le_of_ble_eq_true rfl) rfl rfl ?_
      refine a_aload_0 rfl rfl ?_
      refine a_virt0 rfl rfl (C2) (Nat.le_of_ble_eq_true rfl) ⟨rfl, rfl, rfl, rfl⟩ rfl rfl rfl (Nat.le_of_ble_eq_true rfl) rfl rfl ?_
      refine a_aload_0 rfl rfl ?_
      refine a_getr rfl rfl rfl (fun _ _ _ => rfl) rfl ?_
      refine a_getr rfl rfl rfl (fun _ _ _ => rfl) rfl ?_
      refine a_geti rfl rfl rfl (fun _ _ _ => rfl) ?_
      refine a_as (y := B 8) h8 ?_
      exact a_iret rfl rfl
    · unfold noW frA
      rw [like _ (by omega), (H11.1 j hj).1]
  · intro L t lt rt rp sw h gl ok H
    have C : avE 0 182 [.ref 83, .ref 82] (sX L t lt rt rp sw h gl) (none, sX L t lt rt rp sw (va_up h 82 (rw1 1726 B A)) gl) := by
      have Z := l_rcopy (L := L) (t := t) (lt := lt) (rt := rt) (rp := rp) (sw := sw) (h := h) (gl := gl) 83 82 B A rfl rfl (fun X => Or.inl H.2.1) (by decide) 1726 0 rfl
      rw [rw1_0, ← H.1, up_id] at Z
      rw [← H.1]
      show avA _ 182 0 [.ref 83, .ref 82, mvU] [] _ _
      refine a_iconst (v := (nI 0)) rfl rfl rfl ?_
      refine a_istore_2 rfl rfl rfl ?_
      exact Z
    refine ⟨va_up h 82 (rw1 1726 B A), gl, ?_, CF_up CF_refl rfl, fun _ _ => rfl, rfl, H.2.1, H.2.2.1, fun x hx => H.2.2.2 x (by omega)⟩
    show avA _ 321 0 [.ref 81] [] _ _
    refine a_aload_0 rfl rfl ?_
    refine a_getr rfl rfl rfl (fun _ _ _ => rfl) rfl ?_
    refine a_aload_0 rfl rfl ?_
    refine a_getr rfl rfl rfl (fun _ _ _ => rfl) rfl ?_
    refine a_stat0 rfl rfl (C) (Nat.le_of_ble_eq_true rfl) ⟨rfl, rfl, rfl⟩ rfl rfl rfl (Nat.le_of_ble_eq_true rfl) rfl ?_
    refine a_aload_0 rfl rfl ?_
    refine a_getr rfl rfl rfl (fun _ _ _ => rfl) rfl ?_
    refine a_bipush (v := (nI 8)) rfl rfl rfl ?_
    refine a_iald rfl rfl (Or.inl rfl) rfl (by omega) (by decide) ?_
    refine a_as (y := B 8) (like 8 (by omega)) ?_
    exact a_iret rfl rfl
end I2
