/-! ASKING: what the moon pays, when a beast kicks, by the class -/
theorem LW_cf {S : List Nat} {fl : Nat → Option (E1 → Int)} {A : Nat → Int32} {h h' : Nat → Nat → Int32} {t : Nat} {lt : Option Nat} {mo : Int32} {R ho sz : Nat} (h1 : [8, 9, 10, 12, 13].all (fun p => !S.contains p) = true) (h2 : ∀ p, 98 ≤ p → S.contains p = false) (H : LW fl A h t lt mo R ho sz) (c : CF S h h') (f : LWf (fl 0) A h' R ho sz) : LW fl A h' t lt mo R ho sz := by
  obtain ⟨⟨x1, x2, x3, x4, x5, x6, x7, x8, x9, x10, x11⟩, _, hl, hA, hfm⟩ := H
  simp only [List.all_cons, List.all_nil, Bool.and_true, Bool.and_eq_true, Bool.not_eq_true'] at h1
  obtain ⟨s8, s9, s10, s12, s13⟩ := h1
  have e8 := c 8 s8
  have e9 := c 9 s9
  have e10 := c 10 s10
  have e12 := c 12 s12
  have e13 := c 13 s13
  refine ⟨⟨?_, x2, ?_, ?_, ?_, x6, x7, x8, x9, ?_, ?_⟩, f, ltR_fr (fun p hp => c p (h2 p hp)) hl, hA, fun d hd => ?_⟩
  · rw [e8]; exact x1
  · rw [e8]; exact x3
  · rw [e8]; exact x4
  · rw [e8]; exact x5
  · rw [e9, e10]; exact x10
  · rw [e10]; exact x11
  · rw [e12, e13]; exact hfm d hd
def ltE (f0 : Option (E1 → Int)) (A : Nat → Int32) (ho sz : Nat) (mo : Int32) : Int → Int := fun v => ((ltC f0 A ho sz mo (iI v) : Nat) : Int)
theorem ltE_B (f0 : Option (E1 → Int)) (A : Nat → Int32) (ho sz : Nat) (mo : Int32) (v : Int) : -1000000 ≤ ltE f0 A ho sz mo v ∧ ltE f0 A ho sz mo v ≤ 1000000 := by
  have := ltC_le f0 A ho sz mo (iI v)
  unfold ltE
  omega
def bdV (A : Nat → Int32) (mo : Int32) : Nat := if mo ≠ -1 ∧ A (38 + mo.toInt.toNat) = nI 3 then 1 else 0
def pyE (f0 : Option (E1 → Int)) (A : Nat → Int32) (ho sz : Nat) (mo : Int32) (si : Int) : E1 := (fun j => match j with
  | 0 => (ho : Int)
  | 1 => ((ho / 24 % 30 : Nat) : Int)
  | 2 => (sz : Int)
  | 7 => si
  | 8 => (bdV A mo : Int)
  | _ => 0, ltE f0 A ho sz mo)
def kcE (f0 : Option (E1 → Int)) (A : Nat → Int32) (ho sz : Nat) (mo : Int32) (md ak : Int32) (who : Nat) : E1 := (fun j => match j with
  | 0 => (ho : Int)
  | 1 => ((ho / 24 % 30 : Nat) : Int)
  | 2 => (sz : Int)
  | 6 => ak.toInt
  | 9 => md.toInt
  | 10 => (who : Int)
  | _ => 0, ltE f0 A ho sz mo)
theorem pyE_OK {f0 : Option (E1 → Int)} {A : Nat → Int32} {ho sz : Nat} {mo : Int32} {si : Int} (h1 : ho ≤ 9999) (h2 : sz ≤ 30) (h3 : 0 ≤ si ∧ si ≤ 9999) : eOK (pyE f0 A ho sz mo si) := by
  refine ⟨fun j => ?_, fun x => ltE_B _ _ _ _ _ _⟩
  have hb : bdV A mo ≤ 1 := by unfold bdV; split <;> omega
  unfold pyE
  dsimp only
  split <;> omega
theorem kcE_OK {f0 : Option (E1 → Int)} {A : Nat → Int32} {ho sz : Nat} {mo md ak : Int32} {who : Nat} (h1 : ho ≤ 9999) (h2 : sz ≤ 30) (h3 : 0 ≤ md.toInt ∧ md.toInt ≤ 9999) (h4 : 0 ≤ ak.toInt ∧ ak.toInt ≤ 9999) (h5 : who ≤ 9999) : eOK (kcE f0 A ho sz mo md ak who) := by
  refine ⟨fun j => ?_, fun x => ltE_B _ _ _ _ _ _⟩
  unfold kcE
  dsimp only
  split <;> omega
def pyV (fl : Nat → Option (E1 → Int)) (A : Nat → Int32) (ho sz : Nat) (mo : Int32) (si : Int) : Nat := match fl 1 with
  | none => 1
  | some f => clN (f (pyE (fl 0) A ho sz mo si)) 99
def kcV (fl : Nat → Option (E1 → Int)) (A : Nat → Int32) (ho sz : Nat) (mo md ak : Int32) (who : Nat) : Nat := match fl 2 with
  | none => ltC (fl 0) A ho sz mo ak / 3
  | some f => clN (f (kcE (fl 0) A ho sz mo md ak who)) 10
theorem pyV_le (fl : Nat → Option (E1 → Int)) (A : Nat → Int32) (ho sz : Nat) (mo : Int32) (si : Int) : pyV fl A ho sz mo si ≤ 99 := by
  unfold pyV
  split
  · omega
  · exact clN_le _ _
theorem kcV_le (fl : Nat → Option (E1 → Int)) (A : Nat → Int32) (ho sz : Nat) (mo md ak : Int32) (who : Nat) : kcV fl A ho sz mo md ak who ≤ 10 := by
  unfold kcV
  split
  · have := ltC_le (fl 0) A ho sz mo ak
    omega
  · exact clN_le _ _
section AK
variable {L t : Nat} {lt rt rp : Option Nat} {sw : Bool} {h : Nat → Nat → Int32} {gl : Nat → Nat → Int64}
theorem k1l_36 (x : Nat) (hx : x < t) (law e : Nat) (E : E1) (fl : Nat → Option (E1 → Int)) (A : Nat → Int32) (mo : Int32) (R ho sz : Nat) (H : LW fl A h t lt mo R ho sz) (hE2 : ∀ v, (-1000000 ≤ v ∧ v ≤ 1000000) → E.2 v = ((ltC (fl 0) A ho sz mo (iI v) : Nat) : Int)) (i : Nat) (v : Int) (stk : List Int) (b : V1) (hi : i < e) (he : e ≤ 300) (hS : S1l law (h (98 + 7 * x + 4)) E i v stk b) (hv : -1000000 ≤ v ∧ v ≤ 1000000) : ∃ h', CF [34, 35, 39] h h' ∧ LWf (fl 0) A h' R ho sz ∧ (-1000000 ≤ b.2.1 ∧ b.2.1 ≤ 1000000) ∧ b.2.2 = stk ∧ ∀ (r : Option Value × mvSt) y8 y9, (∀ y8 y9, avA 3 105 33 [.ref 36, .ref (98 + 7 * x), .int (nI law), .ref 8, .int (iI b.2.1), .int (nI b.2.2.length), .int (nI e), .int (nI b.1), y8, y9] [] (sX L t lt rt rp sw h' gl) r) → avA 3 105 33 [.ref 36, .ref (98 + 7 * x), .int (nI law), .ref 8, .int (iI v), .int (nI stk.length), .int (nI e), .int (nI i), y8, y9] [] (sX L t lt rt rp sw h gl) r := by
  obtain ⟨nu, g2, g3, g4, g5, rfl⟩ := hS
  obtain ⟨h', C, c1, f1⟩ := e_lightAt (L := L) (t := t) (lt := lt) (rt := rt) (rp := rp) (sw := sw) (gl := gl) fl A mo (iI v) R ho sz H
  have hb := ltC_le (fl 0) A ho sz mo (iI v)
  have e2 := hE2 v hv
  have sgE : nI (nu * 64 + 23) &&& nI 63 = nI 23 := by rw [pk_andN (by omega) 6 (by decide)]; congr 1; omega
  have nuE : nI (nu * 64 + 23) >>> (nI 6 &&& 31) = nI nu := by rw [pk_shrN (by omega) _ 6 (by decide)]; congr 1; omega
  refine ⟨h', c1, f1, (by show -1000000 ≤ E.2 v ∧ E.2 v ≤ 1000000; rw [e2]; omega), rfl, fun r y8 y9 Z => ?_⟩
  refine a_iload_7 rfl rfl ?_
  refine a_iload_6 rfl rfl ?_
  refine a_cmpN_ge rfl rfl rfl (by omega) (by omega) (fun c_37 => False.elim (by omega)) (fun _ => ?_)
  refine a_aload_1 rfl rfl ?_
  refine a_getr rfl rfl (congrArg Prod.fst (tx_t hx)) (fun _ _ _ => rfl) (tx_r4 hx) ?_
  refine a_iload_7 rfl rfl ?_
  refine a_iald rfl rfl (Or.inl (tx_4 hx)) rfl (by omega) (by decide) ?_
  refine a_as (y := nI (nu * 64 + 23)) g3 ?_
  refine a_bipush (v := (nI 63)) rfl rfl rfl ?_
  refine a_iand rfl rfl ?_
  refine a_as (y := nI (23)) sgE ?_
  refine a_istore_8 rfl rfl rfl ?_
  refine a_aload_1 rfl rfl ?_
  refine a_getr rfl rfl (congrArg Prod.fst (tx_t hx)) (fun _ _ _ => rfl) (tx_r4 hx) ?_
  refine a_iload_7 rfl rfl ?_
  refine a_iald rfl rfl (Or.inl (tx_4 hx)) rfl (by omega) (by decide) ?_
  refine a_as (y := nI (nu * 64 + 23)) g3 ?_
  refine a_bipush (v := (nI 6)) rfl rfl rfl ?_
  refine a_ishr rfl rfl ?_
  refine a_as (y := nI (nu)) nuE ?_
  refine a_istore_9 rfl rfl rfl ?_
  refine a_iload_8 rfl rfl ?_
  refine a_look (n := 190) rfl rfl ?_
  refine a_aload_3 rfl rfl ?_
  refine a_ifnonnull rfl rfl rfl ?_
  refine a_aload_3 rfl rfl ?_
  refine a_iload_4 rfl rfl ?_
  refine a_virtI rfl rfl (C) (Nat.le_of_ble_eq_true rfl) ⟨rfl, rfl, rfl, rfl⟩ rfl rfl rfl (Nat.le_of_ble_eq_true rfl) rfl rfl ?_
  refine a_as (y := iI (E.2 v)) (by rw [e2]; exact (iI_nat _).symm) ?_
  refine a_istore_4 rfl rfl rfl ?_
  refine a_goto rfl rfl ?_
  refine a_iinc_7 rfl rfl (nI_inc _ _) rfl ?_
  refine a_goto rfl rfl ?_
  exact Z _ _
theorem k3_run (x : Nat) (hx : x < t) (law e : Nat) (he : e ≤ 300) (E : E1) (hE : eOK E) (cd : Nat → Int32) (fl : Nat → Option (E1 → Int)) (A : Nat → Int32) (mo : Int32) (R ho sz : Nat) (hE2 : ∀ v, (-1000000 ≤ v ∧ v ≤ 1000000) → E.2 v = ((ltC (fl 0) A ho sz mo (iI v) : Nat) : Int)) (n : Nat) : ∀ (a b : V1) (h : Nat → Nat → Int32), h (98 + 7 * x + 4) = cd → (∀ j, nmOk law j = true → h 38 j = iI (E.1 j)) → LW fl A h t lt mo R ho sz → Run1 law cd E e n a b → (-1000000 ≤ a.2.1 ∧ a.2.1 ≤ 1000000) → sR a.2.2 (h 37) → ∃ h', CF [34, 35, 37, 39] h h' ∧ LWf (fl 0) A h' R ho sz ∧ ∀ (r : Option Value × mvSt) y8 y9, (∀ y8 y9, avA 3 105 33 [.ref 36, .ref (98 + 7 * x), .int (nI law), .ref 8, .int (iI b.2.1), .int (nI b.2.2.length), .int (nI e), .int (nI b.1), y8, y9] [] (sX L t lt rt rp sw h' gl) r) → avA 3 105 33 [.ref 36, .ref (98 + 7 * x), .int (nI law), .ref 8, .int (iI a.2.1), .int (nI a.2.2.length), .int (nI e), .int (nI a.1), y8, y9] [] (sX L t lt rt rp sw h gl) r := by
  induction n with
  | zero =>
    intro a b h hcd hN H hr hv hF
    have e : a = b := hr
    subst e
    exact ⟨h, CF_refl, H.2.1, fun r y8 y9 Z => Z _ _⟩
  | succ n ih =>
    intro a b h hcd hN H hr hv hF
    obtain ⟨hi, c, hS, hr'⟩ := hr
    rcases hS with hS | hS
    · rw [← hcd] at hS
      obtain ⟨F1, s1, v1, K⟩ := k1_36 (L := L) (t := t) (lt := lt) (rt := rt) (rp := rp) (sw := sw) (gl := gl) x hx law e E hE hN a.1 a.2.1 a.2.2 c (h 37) hi he hS hv hF
      rw [up_id] at K
      have cf : CF [37] h (va_up h 37 F1) := CF_up CF_refl rfl
      have f1 : LWf (fl 0) A (va_up h 37 F1) R ho sz := H.2.1
      obtain ⟨h2, c2, f2, K2⟩ := ih c b (va_up h 37 F1) (by rw [va_up_ne _ _ (by omega)]; exact hcd) hN (LW_cf rfl (fun p hp => by simp; omega) H cf f1) hr' v1 s1
      exact ⟨h2, CF_trans (CF_mono (by decide) cf) c2, f2, fun r y8 y9 Z => K r y8 y9 (fun y8 y9 => K2 r y8 y9 Z)⟩
    · rw [← hcd] at hS
      obtain ⟨h1, c1, f1, v1, q1, K⟩ := k1l_36 (L := L) (t := t) (lt := lt) (rt := rt) (rp := rp) (sw := sw) (gl := gl) x hx law e E fl A mo R ho sz H hE2 a.1 a.2.1 a.2.2 c hi he hS hv
      obtain ⟨h2, c2, f2, K2⟩ := ih c b h1 (by rw [c1 _ (by simp; omega)]; exact hcd) (by rw [c1 38 rfl]; exact hN) (LW_cf rfl (fun p hp => by simp; omega) H c1 f1) hr' v1 (by rw [q1, c1 37 rfl]; exact hF)
      exact ⟨h2, CF_trans (CF_mono (by decide) c1) c2, f2, fun r y8 y9 Z => K r y8 y9 (fun y8 y9 => K2 r y8 y9 Z)⟩
theorem k_reckon_36 (x : Nat) (hx : x < t) (law : Nat) (hlaw : law < 3) (f : E1 → Int) (hl : lawC h (98 + 7 * x) law (some f)) (E : E1) (hE : eOK E) (hN : ∀ j, nmOk law j = true → h 38 j = iI (E.1 j)) (fl : Nat → Option (E1 → Int)) (A : Nat → Int32) (mo : Int32) (R ho sz : Nat) (H : LW fl A h t lt mo R ho sz) (hE2 : ∀ v, (-1000000 ≤ v ∧ v ≤ 1000000) → E.2 v = ((ltC (fl 0) A ho sz mo (iI v) : Nat) : Int)) : ∃ h', avE 3 105 [.ref 36, .ref (98 + 7 * x), .int (nI law), .ref 8] (sX L t lt rt rp sw h gl) (some (.int (iI (f E))), sX L t lt rt rp sw h' gl) ∧ CF [34, 35, 37, 39] h h' ∧ LWf (fl 0) A h' R ho sz := by
  obtain ⟨hf, st, en, len, e1, e2, e3, l1, l2, l3, S⟩ := hl
  obtain ⟨n, Rn⟩ := S E hE 0 [] (by omega) (Nat.le_refl _)
  obtain ⟨h', c1, f1, K⟩ := k3_run (L := L) (t := t) (lt := lt) (rt := rt) (rp := rp) (sw := sw) (gl := gl) x hx law en (by omega) E hE _ fl A mo R ho sz hE2 n _ _ h rfl hN H Rn (by show (-1000000 : Int) ≤ 0 ∧ (0 : Int) ≤ 1000000; omega) trivial
  refine ⟨h', ?_, c1, f1⟩
  show avA _ 105 0 [.ref 36, .ref (98 + 7 * x), .int (nI (law)), .ref 8, mvU, mvU, mvU, mvU, mvU, mvU] [] _ _
  refine a_iconst (v := iI (0)) rfl rfl rfl ?_
  refine a_istore_4 rfl rfl rfl ?_
  refine a_iconst (v := (nI 0)) rfl rfl rfl ?_
  refine a_istore_5 rfl rfl rfl ?_
  refine a_aload_1 rfl rfl ?_
  refine a_getr rfl rfl (congrArg Prod.fst (tx_t hx)) (fun _ _ _ => rfl) (tx_r7 hx) ?_
  refine a_iload_2 rfl rfl ?_
  refine a_iald rfl rfl (Or.inl (tx_6 hx)) rfl (by omega) (by decide) ?_
  refine a_as (y := nI (en)) e2 ?_
  refine a_aload_1 rfl rfl ?_
  refine a_geti rfl rfl (congrArg Prod.fst (tx_t hx)) (fun _ _ _ => rfl) ?_
  refine a_as (y := nI (len)) e3 ?_
  refine a_minN rfl rfl (Nat.le_of_ble_eq_true rfl) (by omega) (by omega) ?_
  refine a_as (y := nI (en)) (congrArg nI (by omega)) ?_
  refine a_istore_6 rfl rfl rfl ?_
  refine a_iconst (v := (nI 0)) rfl rfl rfl ?_
  refine a_aload_1 rfl rfl ?_
  refine a_getr rfl rfl (congrArg Prod.fst (tx_t hx)) (fun _ _ _ => rfl) (tx_r6 hx) ?_
  refine a_iload_2 rfl rfl ?_
  refine a_iald rfl rfl (Or.inl (tx_5 hx)) rfl (by omega) (by decide) ?_
  refine a_as (y := nI (st)) e1 ?_
  refine a_maxN rfl rfl (Nat.le_of_ble_eq_true rfl) (by omega) (by omega) ?_
  refine a_as (y := nI (st)) (congrArg nI (by omega)) ?_
  refine a_istore_7 rfl rfl rfl ?_
  exact K _ _ _ (fun y8 y9 => k_end_36 x law en (by omega) (f E) [0] y8 y9)
theorem l_pays_14 (x : Nat) (hx : x < t) (hlt : lt = some (98 + 7 * x)) (fl : Nat → Option (E1 → Int)) (f : E1 → Int) (hl : lawC h (98 + 7 * x) 1 (some f)) (A : Nat → Int32) (mo : Int32) (R ho sz : Nat) (si : Int) (hsi : 0 ≤ si ∧ si ≤ 9999) (H : LW fl A h t lt mo R ho sz) (hN : ∀ j, nmOk 1 j = true → h 38 j = iI ((pyE (fl 0) A ho sz mo si).1 j)) : ∃ h', avA 4 102 78 [.ref 8, .ref 14] [] (sX L t lt rt rp sw h gl) (some (.int (nI (clN (f (pyE (fl 0) A ho sz mo si)) 99))), sX L t lt rt rp sw h' gl) ∧ CF [34, 35, 37, 39] h h' ∧ LWf (fl 0) A h' R ho sz := by
  have x8 := H.1.2.2.2.2.2.2.2.1
  have x9 := H.1.2.2.2.2.2.2.2.2.1
  have hE : eOK (pyE (fl 0) A ho sz mo si) := pyE_OK x8 (by omega) hsi
  obtain ⟨h', C, c1, f1⟩ := k_reckon_36 (L := L) (lt := lt) (rt := rt) (rp := rp) (sw := sw) (gl := gl) x hx 1 (by omega) f hl _ hE hN fl A mo R ho sz H (fun v _ => rfl)
  refine ⟨h', ?_, c1, f1⟩
  have fb := hl.1 _ hE
  subst hlt
  refine a_aload_0 rfl rfl ?_
  refine a_getr rfl rfl rfl (fun _ _ _ => rfl) rfl ?_
  refine a_aload_0 rfl rfl ?_
  refine a_getr rfl rfl rfl (fun _ _ _ => rfl) rfl ?_
  refine a_iconst (v := (nI 1)) rfl rfl rfl ?_
  refine a_aload_0 rfl rfl ?_
  refine a_virtI rfl rfl (C) (Nat.le_of_ble_eq_true rfl) ⟨rfl, rfl, rfl, rfl⟩ rfl rfl rfl (Nat.le_of_ble_eq_true rfl) rfl rfl ?_
  refine a_bipush (v := (nI 99)) rfl rfl rfl ?_
  refine a_statI rfl rfl (e_clipZ _ 99 fb (by omega)) (Nat.le_of_ble_eq_true rfl) ⟨rfl, rfl, rfl⟩ rfl rfl rfl (Nat.le_of_ble_eq_true rfl) rfl ?_
  exact a_iret rfl rfl
theorem e_paysBy_14 (fl : Nat → Option (E1 → Int)) (A : Nat → Int32) (mo : Int32) (R ho sz : Nat) (H : LW fl A h t lt mo R ho sz) (hsi : 0 ≤ (h 14 1).toInt ∧ (h 14 1).toInt ≤ 9999) : ∃ h', avE 4 102 [.ref 8, .ref 14] (sX L t lt rt rp sw h gl) (some (.int (nI (pyV fl A ho sz mo (h 14 1).toInt))), sX L t lt rt rp sw h' gl) ∧ CF [34, 35, 37, 38, 39] h h' ∧ LWf (fl 0) A h' R ho sz := by
  have H' := H
  obtain ⟨⟨x1, x2, x3, x4, x5, x6, x7, x8, x9, x10, x11⟩, hf, hl, hA, hfm⟩ := H
  cases hf1 : fl 1 with
  | none =>
    refine ⟨h, ?_, CF_refl, hf⟩
    have e : pyV fl A ho sz mo (h 14 1).toInt = 1 := by unfold pyV; rw [hf1]
    rw [e]
    show avA _ 102 0 [.ref 8, .ref 14] [] _ _
    refine a_aload_0 rfl rfl ?_
    refine a_iconst (v := (nI 1)) rfl rfl rfl ?_
    refine a_virtI rfl rfl (e_ltells 1 (by omega) fl hl) (Nat.le_of_ble_eq_true rfl) ⟨rfl, rfl, rfl, rfl⟩ rfl rfl rfl (Nat.le_of_ble_eq_true rfl) rfl rfl ?_
    refine a_ifb_ne rfl rfl rfl (fun c_5 => by first | exact absurd c_5 (by rw [hf1]; decide) | exact absurd (by rw [hf1]; decide) c_5) (fun _ => ?_)
    refine a_iconst (v := (nI 1)) rfl rfl rfl ?_
    exact a_iret rfl rfl
  | some f =>
    have e : pyV fl A ho sz mo (h 14 1).toInt = clN (f (pyE (fl 0) A ho sz mo (h 14 1).toInt)) 99 := by unfold pyV; rw [hf1]
    rw [e]
    cases lt with
    | none => exact absurd (hl 1 (by omega)) (by rw [hf1]; simp)
    | some o =>
      have hl' := hl
      obtain ⟨x, hx, rfl, hl2⟩ := hl
      have hl1 := hl2 1 (by omega)
      rw [hf1] at hl1
      let h1 : Nat → Nat → Int32 := mvPut (mvPut (mvPut (mvPut (mvPut h 38 0 (nI ho)) 38 1 (nI (ho / 24 % 30))) 38 2 (nI sz)) 38 7 (h 14 1)) 38 8 (nI (bdV A mo))
      have c1 : CF [38] h h1 := CF_put (CF_put (CF_put (CF_put (CF_put CF_refl rfl) rfl) rfl) rfl) rfl
      have H1 : LW fl A h1 t (some (98 + 7 * x)) mo R ho sz := LW_cf rfl (fun p hp => by simp; omega) H' c1 hf
      have hN1 : ∀ j, nmOk 1 j = true → h1 38 j = iI ((pyE (fl 0) A ho sz mo (h 14 1).toInt).1 j) := by
        intro j hj
        have := of_decide_eq_true hj
        have hj9 : j < 9 := by omega
        match j, hj9 with
        | 0, _ => exact (iI_nat ho).symm
        | 1, _ => exact (iI_nat (ho / 24 % 30)).symm
        | 2, _ => exact (iI_nat sz).symm
        | 3, _ => omega
        | 4, _ => omega
        | 5, _ => omega
        | 6, _ => omega
        | 7, _ => exact iI_of _
        | 8, _ => exact (iI_nat (bdV A mo)).symm
      obtain ⟨h', C, c2, f2⟩ := l_pays_14 (L := L) (rt := rt) (rp := rp) (sw := sw) (gl := gl) x hx rfl fl f (lawC_fr (fun p hp => c1 p (by simp; omega)) (by omega) hl1) A mo R ho sz (h 14 1).toInt hsi H1 hN1
      refine ⟨h', ?_, CF_trans (CF_mono (by decide) c1) (CF_mono (by decide) c2), f2⟩
      rcases x2 with x2 | x2
      · have eb : bdV A mo = 0 := by unfold bdV; rw [if_neg (fun q => q.1 x2)]
        have C0 := C
        simp only [h1] at C0
        rw [eb] at C0
        show avA _ 102 0 [.ref 8, .ref 14] [] _ _
        refine a_aload_0 rfl rfl ?_
        refine a_iconst (v := (nI 1)) rfl rfl rfl ?_
        refine a_virtI rfl rfl (e_ltells 1 (by omega) fl hl') (Nat.le_of_ble_eq_true rfl) ⟨rfl, rfl, rfl, rfl⟩ rfl rfl rfl (Nat.le_of_ble_eq_true rfl) rfl rfl ?_
        refine a_ifb_ne rfl rfl rfl (fun _ => ?_) (fun c_5 => by first | exact absurd (by rw [hf1]; rfl) c_5 | exact absurd c_5 (by rw [hf1]; rfl))
        refine a_aload_0 rfl rfl ?_
        refine a_getr rfl rfl rfl (fun _ _ _ => rfl) rfl ?_
        refine a_aload_0 rfl rfl ?_
        refine a_geti rfl rfl rfl (fun _ _ _ => rfl) ?_
        refine a_as (y := nI (ho)) x3 ?_
        refine a_aload_0 rfl rfl ?_
        refine a_geti rfl rfl rfl (fun _ _ _ => rfl) ?_
        refine a_as (y := nI sz) x4 ?_
        refine a_virt0 rfl rfl (e_setTime_36 ho (nI sz) x8) (Nat.le_of_ble_eq_true rfl) ⟨rfl, rfl, rfl, rfl⟩ rfl rfl rfl (Nat.le_of_ble_eq_true rfl) rfl rfl ?_
        refine a_aload_0 rfl rfl ?_
        refine a_getr rfl rfl rfl (fun _ _ _ => rfl) rfl ?_
        refine a_getr rfl rfl rfl (fun _ _ _ => rfl) rfl ?_
        refine a_bipush (v := (nI 7)) rfl rfl rfl ?_
        refine a_aload_1 rfl rfl ?_
        refine a_geti rfl rfl rfl (fun _ _ _ => rfl) ?_
        refine a_iast rfl rfl rfl rfl (by omega) (by decide) ?_
        refine a_aload_0 rfl rfl ?_
        refine a_getr rfl rfl rfl (fun _ _ _ => rfl) rfl ?_
        refine a_getr rfl rfl rfl (fun _ _ _ => rfl) rfl ?_
        refine a_bipush (v := (nI 8)) rfl rfl rfl ?_
        refine a_aload_0 rfl rfl ?_
        refine a_geti rfl rfl rfl (fun _ _ _ => rfl) ?_
        refine a_as (y := mo) x1 ?_
        refine a_iconst (v := (-1)) rfl rfl rfl ?_
        refine a_cmp_eq rfl rfl rfl (fun _ => ?_) (fun c_53 => by first | exact absurd x2 c_53 | exact absurd c_53 x2)
        refine a_iconst (v := (nI 0)) rfl rfl rfl ?_
        refine a_iast rfl rfl rfl rfl (by omega) (by decide) ?_
        exact C0
      · obtain ⟨n, hn, en⟩ := inC_of x2
        subst en
        have ek : h 12 n = A (38 + n) := (hfm n hn).1
        have t0 : (nI n).toInt.toNat = n := by rw [nI_toInt (by omega)]; rfl
        by_cases hk : A (38 + n) = nI 3
        · have eb : bdV A (nI n) = 1 := by unfold bdV; rw [if_pos ⟨nI_ne_m1 (by omega), by rw [t0]; exact hk⟩]
          have C0 := C
          simp only [h1] at C0
          rw [eb] at C0
          show avA _ 102 0 [.ref 8, .ref 14] [] _ _
          refine a_aload_0 rfl rfl ?_
          refine a_iconst (v := (nI 1)) rfl rfl rfl ?_
          refine a_virtI rfl rfl (e_ltells 1 (by omega) fl hl') (Nat.le_of_ble_eq_true rfl) ⟨rfl, rfl, rfl, rfl⟩ rfl rfl rfl (Nat.le_of_ble_eq_true rfl) rfl rfl ?_
          refine a_ifb_ne rfl rfl rfl (fun _ => ?_) (fun c_5 => by first | exact absurd (by rw [hf1]; rfl) c_5 | exact absurd c_5 (by rw [hf1]; rfl))
          refine a_aload_0 rfl rfl ?_
          refine a_getr rfl rfl rfl (fun _ _ _ => rfl) rfl ?_
          refine a_aload_0 rfl rfl ?_
          refine a_geti rfl rfl rfl (fun _ _ _ => rfl) ?_
          refine a_as (y := nI (ho)) x3 ?_
          refine a_aload_0 rfl rfl ?_
          refine a_geti rfl rfl rfl (fun _ _ _ => rfl) ?_
          refine a_as (y := nI sz) x4 ?_
          refine a_virt0 rfl rfl (e_setTime_36 ho (nI sz) x8) (Nat.le_of_ble_eq_true rfl) ⟨rfl, rfl, rfl, rfl⟩ rfl rfl rfl (Nat.le_of_ble_eq_true rfl) rfl rfl ?_
          refine a_aload_0 rfl rfl ?_
          refine a_getr rfl rfl rfl (fun _ _ _ => rfl) rfl ?_
          refine a_getr rfl rfl rfl (fun _ _ _ => rfl) rfl ?_
          refine a_bipush (v := (nI 7)) rfl rfl rfl ?_
          refine a_aload_1 rfl rfl ?_
          refine a_geti rfl rfl rfl (fun _ _ _ => rfl) ?_
          refine a_iast rfl rfl rfl rfl (by omega) (by decide) ?_
          refine a_aload_0 rfl rfl ?_
          refine a_getr rfl rfl rfl (fun _ _ _ => rfl) rfl ?_
          refine a_getr rfl rfl rfl (fun _ _ _ => rfl) rfl ?_
          refine a_bipush (v := (nI 8)) rfl rfl rfl ?_
          refine a_aload_0 rfl rfl ?_
          refine a_geti rfl rfl rfl (fun _ _ _ => rfl) ?_
          refine a_as (y := nI n) x1 ?_
          refine a_iconst (v := (-1)) rfl rfl rfl ?_
          refine a_cmp_eq rfl rfl rfl (fun c_53 => by first | exact absurd c_53 (nI_ne_m1 (by omega)) | exact absurd (nI_ne_m1 (by omega)) c_53) (fun _ => ?_)
          refine a_aload_0 rfl rfl ?_
          refine a_getr rfl rfl rfl (fun _ _ _ => rfl) rfl ?_
          refine a_getr rfl rfl rfl (fun _ _ _ => rfl) rfl ?_
          refine a_aload_0 rfl rfl ?_
          refine a_geti rfl rfl rfl (fun _ _ _ => rfl) ?_
          refine a_as (y := nI (n)) x1 ?_
          refine a_iald rfl rfl (Or.inl rfl) rfl (by omega) (by decide) ?_
          refine a_as (y := nI 3) (ek.trans hk) ?_
          refine a_iconst (v := (nI 3)) rfl rfl rfl ?_
          refine a_cmp_ne rfl rfl rfl (fun c_69 => by first | exact absurd c_69 (not_not_intro rfl) | exact absurd (not_not_intro rfl) c_69) (fun _ => ?_)
          refine a_iconst (v := (nI 1)) rfl rfl rfl ?_
          refine a_goto rfl rfl ?_
          refine a_iast rfl rfl rfl rfl (by omega) (by decide) ?_
          exact C0
        · have eb : bdV A (nI n) = 0 := by unfold bdV; rw [if_neg (fun q => hk (by have := q.2; rw [t0] at this; exact this))]
          have C0 := C
          simp only [h1] at C0
          rw [eb] at C0
          show avA _ 102 0 [.ref 8, .ref 14] [] _ _
          refine a_aload_0 rfl rfl ?_
          refine a_iconst (v := (nI 1)) rfl rfl rfl ?_
          refine a_virtI rfl rfl (e_ltells 1 (by omega) fl hl') (Nat.le_of_ble_eq_true rfl) ⟨rfl, rfl, rfl, rfl⟩ rfl rfl rfl (Nat.le_of_ble_eq_true rfl) rfl rfl ?_
          refine a_ifb_ne rfl rfl rfl (fun _ => ?_) (fun c_5 => by first | exact absurd (by rw [hf1]; rfl) c_5 | exact absurd c_5 (by rw [hf1]; rfl))
          refine a_aload_0 rfl rfl ?_
          refine a_getr rfl rfl rfl (fun _ _ _ => rfl) rfl ?_
          refine a_aload_0 rfl rfl ?_
          refine a_geti rfl rfl rfl (fun _ _ _ => rfl) ?_
          refine a_as (y := nI (ho)) x3 ?_
          refine a_aload_0 rfl rfl ?_
          refine a_geti rfl rfl rfl (fun _ _ _ => rfl) ?_
          refine a_as (y := nI sz) x4 ?_
          refine a_virt0 rfl rfl (e_setTime_36 ho (nI sz) x8) (Nat.le_of_ble_eq_true rfl) ⟨rfl, rfl, rfl, rfl⟩ rfl rfl rfl (Nat.le_of_ble_eq_true rfl) rfl rfl ?_
          refine a_aload_0 rfl rfl ?_
          refine a_getr rfl rfl rfl (fun _ _ _ => rfl) rfl ?_
          refine a_getr rfl rfl rfl (fun _ _ _ => rfl) rfl ?_
          refine a_bipush (v := (nI 7)) rfl rfl rfl ?_
          refine a_aload_1 rfl rfl ?_
          refine a_geti rfl rfl rfl (fun _ _ _ => rfl) ?_
          refine a_iast rfl rfl rfl rfl (by omega) (by decide) ?_
          refine a_aload_0 rfl rfl ?_
          refine a_getr rfl rfl rfl (fun _ _ _ => rfl) rfl ?_
          refine a_getr rfl rfl rfl (fun _ _ _ => rfl) rfl ?_
          refine a_bipush (v := (nI 8)) rfl rfl rfl ?_
          refine a_aload_0 rfl rfl ?_
          refine a_geti rfl rfl rfl (fun _ _ _ => rfl) ?_
          refine a_as (y := nI n) x1 ?_
          refine a_iconst (v := (-1)) rfl rfl rfl ?_
          refine a_cmp_eq rfl rfl rfl (fun c_53 => by first | exact absurd c_53 (nI_ne_m1 (by omega)) | exact absurd (nI_ne_m1 (by omega)) c_53) (fun _ => ?_)
          refine a_aload_0 rfl rfl ?_
          refine a_getr rfl rfl rfl (fun _ _ _ => rfl) rfl ?_
          refine a_getr rfl rfl rfl (fun _ _ _ => rfl) rfl ?_
          refine a_aload_0 rfl rfl ?_
          refine a_geti rfl rfl rfl (fun _ _ _ => rfl) ?_
          refine a_as (y := nI (n)) x1 ?_
          refine a_iald rfl rfl (Or.inl rfl) rfl (by omega) (by decide) ?_
          refine a_as (y := A (38 + n)) ek ?_
          refine a_iconst (v := (nI 3)) rfl rfl rfl ?_
          refine a_cmp_ne rfl rfl rfl (fun _ => ?_) (fun c_69 => by first | exact absurd hk c_69 | exact absurd c_69 hk)
          refine a_iconst (v := (nI 0)) rfl rfl rfl ?_
          refine a_iast rfl rfl rfl rfl (by omega) (by decide) ?_
          exact C0
theorem e_kicksOf_14 (fl : Nat → Option (E1 → Int)) (A : Nat → Int32) (mo : Int32) (R ho sz b : Nat) (hb : b < 5) (H : LW fl A h t lt mo R ho sz) (hm : 0 ≤ (h 16 b).toInt ∧ (h 16 b).toInt ≤ 9999) (ha : 0 ≤ (h 15 b).toInt ∧ (h 15 b).toInt ≤ 9999) : ∃ h', avE 4 110 [.ref 8, .ref 14, .int (nI b)] (sX L t lt rt rp sw h gl) (some (.int (nI (kcV fl A ho sz mo (h 16 b) (h 15 b) b))), sX L t lt rt rp sw h' gl) ∧ CF [34, 35, 37, 38, 39] h h' ∧ LWf (fl 0) A h' R ho sz := by
  have H' := H
  obtain ⟨⟨x1, x2, x3, x4, x5, x6, x7, x8, x9, x10, x11⟩, hf, hl, hA, hfm⟩ := H
  cases hf2 : fl 2 with
  | none =>
    have e : kcV fl A ho sz mo (h 16 b) (h 15 b) b = ltC (fl 0) A ho sz mo (h 15 b) / 3 := by unfold kcV; rw [hf2]
    rw [e]
    obtain ⟨h', C, c1, f1⟩ := e_lightAt (L := L) (t := t) (lt := lt) (rt := rt) (rp := rp) (sw := sw) (gl := gl) fl A mo (h 15 b) R ho sz H'
    have hb2 := ltC_le (fl 0) A ho sz mo (h 15 b)
    refine ⟨h', ?_, CF_mono (by decide) c1, f1⟩
    show avA _ 110 0 [.ref 8, .ref 14, .int (nI (b))] [] _ _
    refine a_aload_0 rfl rfl ?_
    refine a_iconst (v := (nI 2)) rfl rfl rfl ?_
    refine a_virtI rfl rfl (e_ltells 2 (by omega) fl hl) (Nat.le_of_ble_eq_true rfl) ⟨rfl, rfl, rfl, rfl⟩ rfl rfl rfl (Nat.le_of_ble_eq_true rfl) rfl rfl ?_
    refine a_ifb_ne rfl rfl rfl (fun c_5 => by first | exact absurd c_5 (by rw [hf2]; decide) | exact absurd (by rw [hf2]; decide) c_5) (fun _ => ?_)
    refine a_aload_0 rfl rfl ?_
    refine a_aload_1 rfl rfl ?_
    refine a_getr rfl rfl rfl (fun _ _ _ => rfl) rfl ?_
    refine a_iload_2 rfl rfl ?_
    refine a_iald rfl rfl (Or.inl rfl) rfl (by omega) (by decide) ?_
    refine a_virtI rfl rfl (C) (Nat.le_of_ble_eq_true rfl) ⟨rfl, rfl, rfl, rfl⟩ rfl rfl rfl (Nat.le_of_ble_eq_true rfl) rfl rfl ?_
    refine a_iconst (v := (nI 3)) rfl rfl rfl ?_
    refine a_idivN rfl rfl (by omega) (by omega) (by omega) ?_
    exact a_iret rfl rfl
  | some f =>
    have e : kcV fl A ho sz mo (h 16 b) (h 15 b) b = clN (f (kcE (fl 0) A ho sz mo (h 16 b) (h 15 b) b)) 10 := by unfold kcV; rw [hf2]
    rw [e]
    cases lt with
    | none => exact absurd (hl 2 (by omega)) (by rw [hf2]; simp)
    | some o =>
      have hl' := hl
      obtain ⟨x, hx, rfl, hl2⟩ := hl
      have hl1 := hl2 2 (by omega)
      rw [hf2] at hl1
      let h1 : Nat → Nat → Int32 := mvPut (mvPut (mvPut (mvPut (mvPut (mvPut h 38 0 (nI ho)) 38 1 (nI (ho / 24 % 30))) 38 2 (nI sz)) 38 9 (h 16 b)) 38 10 (nI b)) 38 6 (h 15 b)
      have c1 : CF [38] h h1 := CF_put (CF_put (CF_put (CF_put (CF_put (CF_put CF_refl rfl) rfl) rfl) rfl) rfl) rfl
      have H1 : LW fl A h1 t (some (98 + 7 * x)) mo R ho sz := LW_cf rfl (fun p hp => by simp; omega) H' c1 hf
      have hE : eOK (kcE (fl 0) A ho sz mo (h 16 b) (h 15 b) b) := kcE_OK x8 (by omega) hm ha (by omega)
      have hN1 : ∀ j, nmOk 2 j = true → h1 38 j = iI ((kcE (fl 0) A ho sz mo (h 16 b) (h 15 b) b).1 j) := by
        intro j hj
        have := of_decide_eq_true hj
        have hj9 : j < 11 := by omega
        match j, hj9 with
        | 0, _ => exact (iI_nat ho).symm
        | 1, _ => exact (iI_nat (ho / 24 % 30)).symm
        | 2, _ => exact (iI_nat sz).symm
        | 3, _ => omega
        | 4, _ => omega
        | 5, _ => omega
        | 6, _ => exact iI_of _
        | 7, _ => omega
        | 8, _ => omega
        | 9, _ => exact iI_of _
        | 10, _ => exact (iI_nat b).symm
      obtain ⟨h', C, c2, f2⟩ := k_reckon_36 (L := L) (rt := rt) (rp := rp) (sw := sw) (gl := gl) x hx 2 (by omega) f (lawC_fr (fun p hp => c1 p (by simp; omega)) (by omega) hl1) _ hE hN1 fl A mo R ho sz H1 (fun v _ => rfl)
      have fb := hl1.1 _ hE
      refine ⟨h', ?_, CF_trans (CF_mono (by decide) c1) (CF_mono (by decide) c2), f2⟩
      show avA _ 110 0 [.ref 8, .ref 14, .int (nI (b))] [] _ _
      refine a_aload_0 rfl rfl ?_
      refine a_iconst (v := (nI 2)) rfl rfl rfl ?_
      refine a_virtI rfl rfl (e_ltells 2 (by omega) fl hl') (Nat.le_of_ble_eq_true rfl) ⟨rfl, rfl, rfl, rfl⟩ rfl rfl rfl (Nat.le_of_ble_eq_true rfl) rfl rfl ?_
      refine a_ifb_ne rfl rfl rfl (fun _ => ?_) (fun c_5 => by first | exact absurd (by rw [hf2]; rfl) c_5 | exact absurd c_5 (by rw [hf2]; rfl))
      refine a_aload_0 rfl rfl ?_
      refine a_getr rfl rfl rfl (fun _ _ _ => rfl) rfl ?_
      refine a_aload_0 rfl rfl ?_
      refine a_geti rfl rfl rfl (fun _ _ _ => rfl) ?_
      refine a_as (y := nI (ho)) x3 ?_
      refine a_aload_0 rfl rfl ?_
      refine a_geti rfl rfl rfl (fun _ _ _ => rfl) ?_
      refine a_as (y := nI sz) x4 ?_
      refine a_virt0 rfl rfl (e_setTime_36 ho (nI sz) x8) (Nat.le_of_ble_eq_true rfl) ⟨rfl, rfl, rfl, rfl⟩ rfl rfl rfl (Nat.le_of_ble_eq_true rfl) rfl rfl ?_
      refine a_aload_0 rfl rfl ?_
      refine a_getr rfl rfl rfl (fun _ _ _ => rfl) rfl ?_
      refine a_getr rfl rfl rfl (fun _ _ _ => rfl) rfl ?_
      refine a_bipush (v := (nI 9)) rfl rfl rfl ?_
      refine a_aload_1 rfl rfl ?_
      refine a_getr rfl rfl rfl (fun _ _ _ => rfl) rfl ?_
      refine a_iload_2 rfl rfl ?_
      refine a_iald rfl rfl (Or.inl rfl) rfl (by omega) (by decide) ?_
      refine a_iast rfl rfl rfl rfl (by omega) (by decide) ?_
      refine a_aload_0 rfl rfl ?_
      refine a_getr rfl rfl rfl (fun _ _ _ => rfl) rfl ?_
      refine a_getr rfl rfl rfl (fun _ _ _ => rfl) rfl ?_
      refine a_bipush (v := (nI 10)) rfl rfl rfl ?_
      refine a_iload_2 rfl rfl ?_
      refine a_iast rfl rfl rfl rfl (by omega) (by decide) ?_
      refine a_aload_0 rfl rfl ?_
      refine a_getr rfl rfl rfl (fun _ _ _ => rfl) rfl ?_
      refine a_getr rfl rfl rfl (fun _ _ _ => rfl) rfl ?_
      refine a_bipush (v := (nI 6)) rfl rfl rfl ?_
      refine a_aload_1 rfl rfl ?_
      refine a_getr rfl rfl rfl (fun _ _ _ => rfl) rfl ?_
      refine a_iload_2 rfl rfl ?_
      refine a_iald rfl rfl (Or.inl rfl) rfl (by omega) (by decide) ?_
      refine a_iast rfl rfl rfl rfl (by omega) (by decide) ?_
      refine a_aload_0 rfl rfl ?_
      refine a_getr rfl rfl rfl (fun _ _ _ => rfl) rfl ?_
      refine a_aload_0 rfl rfl ?_
      refine a_getr rfl rfl rfl (fun _ _ _ => rfl) rfl ?_
      refine a_iconst (v := (nI 2)) rfl rfl rfl ?_
      refine a_aload_0 rfl rfl ?_
      refine a_virtI rfl rfl (C) (Nat.le_of_ble_eq_true rfl) ⟨rfl, rfl, rfl, rfl⟩ rfl rfl rfl (Nat.le_of_ble_eq_true rfl) rfl rfl ?_
      refine a_bipush (v := (nI 10)) rfl rfl rfl ?_
      refine a_statI rfl rfl (e_clipZ _ 10 fb (by omega)) (Nat.le_of_ble_eq_true rfl) ⟨rfl, rfl, rfl⟩ rfl rfl rfl (Nat.le_of_ble_eq_true rfl) rfl ?_
      exact a_iret rfl rfl
theorem l_pays_62 (x : Nat) (hx : x < t) (hlt : lt = some (98 + 7 * x)) (fl : Nat → Option (E1 → Int)) (f : E1 → Int) (hl : lawC h (98 + 7 * x) 1 (some f)) (A : Nat → Int32) (mo : Int32) (R ho sz : Nat) (si : Int) (hsi : 0 ≤ si ∧ si ≤ 9999) (H : LW fl A h t lt mo R ho sz) (hN : ∀ j, nmOk 1 j = true → h 38 j = iI ((pyE (fl 0) A ho sz mo si).1 j)) : ∃ h', avA 4 102 78 [.ref 8, .ref 62] [] (sX L t lt rt rp sw h gl) (some (.int (nI (clN (f (pyE (fl 0) A ho sz mo si)) 99))), sX L t lt rt rp sw h' gl) ∧ CF [34, 35, 37, 39] h h' ∧ LWf (fl 0) A h' R ho sz := by
  have x8 := H.1.2.2.2.2.2.2.2.1
  have x9 := H.1.2.2.2.2.2.2.2.2.1
  have hE : eOK (pyE (fl 0) A ho sz mo si) := pyE_OK x8 (by omega) hsi
  obtain ⟨h', C, c1, f1⟩ := k_reckon_36 (L := L) (lt := lt) (rt := rt) (rp := rp) (sw := sw) (gl := gl) x hx 1 (by omega) f hl _ hE hN fl A mo R ho sz H (fun v _ => rfl)
  refine ⟨h', ?_, c1, f1⟩
  have fb := hl.1 _ hE
  subst hlt
  refine a_aload_0 rfl rfl ?_
  refine a_getr rfl rfl rfl (fun _ _ _ => rfl) rfl ?_
  refine a_aload_0 rfl rfl ?_
  refine a_getr rfl rfl rfl (fun _ _ _ => rfl) rfl ?_
  refine a_iconst (v := (nI 1)) rfl rfl rfl ?_
  refine a_aload_0 rfl rfl ?_
  refine a_virtI rfl rfl (C) (Nat.le_of_ble_eq_true rfl) ⟨rfl, rfl, rfl, rfl⟩ rfl rfl rfl (Nat.le_of_ble_eq_true rfl) rfl rfl ?_
  refine a_bipush (v := (nI 99)) rfl rfl rfl ?_
  refine a_statI rfl rfl (e_clipZ _ 99 fb (by omega)) (Nat.le_of_ble_eq_true rfl) ⟨rfl, rfl, rfl⟩ rfl rfl rfl (Nat.le_of_ble_eq_true rfl) rfl ?_
  exact a_iret rfl rfl
theorem e_paysBy_62 (fl : Nat → Option (E1 → Int)) (A : Nat → Int32) (mo : Int32) (R ho sz : Nat) (H : LW fl A h t lt mo R ho sz) (hsi : 0 ≤ (h 62 1).toInt ∧ (h 62 1).toInt ≤ 9999) : ∃ h', avE 4 102 [.ref 8, .ref 62] (sX L t lt rt rp sw h gl) (some (.int (nI (pyV fl A ho sz mo (h 62 1).toInt))), sX L t lt rt rp sw h' gl) ∧ CF [34, 35, 37, 38, 39] h h' ∧ LWf (fl 0) A h' R ho sz := by
  have H' := H
  obtain ⟨⟨x1, x2, x3, x4, x5, x6, x7, x8, x9, x10, x11⟩, hf, hl, hA, hfm⟩ := H
  cases hf1 : fl 1 with
  | none =>
    refine ⟨h, ?_, CF_refl, hf⟩
    have e : pyV fl A ho sz mo (h 62 1).toInt = 1 := by unfold pyV; rw [hf1]
    rw [e]
    show avA _ 102 0 [.ref 8, .ref 62] [] _ _
    refine a_aload_0 rfl rfl ?_
    refine a_iconst (v := (nI 1)) rfl rfl rfl ?_
    refine a_virtI rfl rfl (e_ltells 1 (by omega) fl hl) (Nat.le_of_ble_eq_true rfl) ⟨rfl, rfl, rfl, rfl⟩ rfl rfl rfl (Nat.le_of_ble_eq_true rfl) rfl rfl ?_
    refine a_ifb_ne rfl rfl rfl (fun c_5 => by first | exact absurd c_5 (by rw [hf1]; decide) | exact absurd (by rw [hf1]; decide) c_5) (fun _ => ?_)
    refine a_iconst (v := (nI 1)) rfl rfl rfl ?_
    exact a_iret rfl rfl
  | some f =>
    have e : pyV fl A ho sz mo (h 62 1).toInt = clN (f (pyE (fl 0) A ho sz mo (h 62 1).toInt)) 99 := by unfold pyV; rw [hf1]
    rw [e]
    cases lt with
    | none => exact absurd (hl 1 (by omega)) (by rw [hf1]; simp)
    | some o =>
      have hl' := hl
      obtain ⟨x, hx, rfl, hl2⟩ := hl
      have hl1 := hl2 1 (by omega)
      rw [hf1] at hl1
      let h1 : Nat → Nat → Int32 := mvPut (mvPut (mvPut (mvPut (mvPut h 38 0 (nI ho)) 38 1 (nI (ho / 24 % 30))) 38 2 (nI sz)) 38 7 (h 62 1)) 38 8 (nI (bdV A mo))
      have c1 : CF [38] h h1 := CF_put (CF_put (CF_put (CF_put (CF_put CF_refl rfl) rfl) rfl) rfl) rfl
      have H1 : LW fl A h1 t (some (98 + 7 * x)) mo R ho sz := LW_cf rfl (fun p hp => by simp; omega) H' c1 hf
      have hN1 : ∀ j, nmOk 1 j = true → h1 38 j = iI ((pyE (fl 0) A ho sz mo (h 62 1).toInt).1 j) := by
        intro j hj
        have := of_decide_eq_true hj
        have hj9 : j < 9 := by omega
        match j, hj9 with
        | 0, _ => exact (iI_nat ho).symm
        | 1, _ => exact (iI_nat (ho / 24 % 30)).symm
        | 2, _ => exact (iI_nat sz).symm
        | 3, _ => omega
        | 4, _ => omega
        | 5, _ => omega
        | 6, _ => omega
        | 7, _ => exact iI_of _
        | 8, _ => exact (iI_nat (bdV A mo)).symm
      obtain ⟨h', C, c2, f2⟩ := l_pays_62 (L := L) (rt := rt) (rp := rp) (sw := sw) (gl := gl) x hx rfl fl f (lawC_fr (fun p hp => c1 p (by simp; omega)) (by omega) hl1) A mo R ho sz (h 62 1).toInt hsi H1 hN1
      refine ⟨h', ?_, CF_trans (CF_mono (by decide) c1) (CF_mono (by decide) c2), f2⟩
      rcases x2 with x2 | x2
      · have eb : bdV A mo = 0 := by unfold bdV; rw [if_neg (fun q => q.1 x2)]
        have C0 := C
        simp only [h1] at C0
        rw [eb] at C0
        show avA _ 102 0 [.ref 8, .ref 62] [] _ _
        refine a_aload_0 rfl rfl ?_
        refine a_iconst (v := (nI 1)) rfl rfl rfl ?_
        refine a_virtI rfl rfl (e_ltells 1 (by omega) fl hl') (Nat.le_of_ble_eq_true rfl) ⟨rfl, rfl, rfl, rfl⟩ rfl rfl rfl (Nat.le_of_ble_eq_true rfl) rfl rfl ?_
        refine a_ifb_ne rfl rfl rfl (fun _ => ?_) (fun c_5 => by first | exact absurd (by rw [hf1]; rfl) c_5 | exact absurd c_5 (by rw [hf1]; rfl))
        refine a_aload_0 rfl rfl ?_
        refine a_getr rfl rfl rfl (fun _ _ _ => rfl) rfl ?_
        refine a_aload_0 rfl rfl ?_
        refine a_geti rfl rfl rfl (fun _ _ _ => rfl) ?_
        refine a_as (y := nI (ho)) x3 ?_
        refine a_aload_0 rfl rfl ?_
        refine a_geti rfl rfl rfl (fun _ _ _ => rfl) ?_
        refine a_as (y := nI sz) x4 ?_
        refine a_virt0 rfl rfl (e_setTime_36 ho (nI sz) x8) (Nat.le_of_ble_eq_true rfl) ⟨rfl, rfl, rfl, rfl⟩ rfl rfl rfl (Nat.le_of_ble_eq_true rfl) rfl rfl ?_
        refine a_aload_0 rfl rfl ?_
        refine a_getr rfl rfl rfl (fun _ _ _ => rfl) rfl ?_
        refine a_getr rfl rfl rfl (fun _ _ _ => rfl) rfl ?_
        refine a_bipush (v := (nI 7)) rfl rfl rfl ?_
        refine a_aload_1 rfl rfl ?_
        refine a_geti rfl rfl rfl (fun _ _ _ => rfl) ?_
        refine a_iast rfl rfl rfl rfl (by omega) (by decide) ?_
        refine a_aload_0 rfl rfl ?_
        refine a_getr rfl rfl rfl (fun _ _ _ => rfl) rfl ?_
        refine a_getr rfl rfl rfl (fun _ _ _ => rfl) rfl ?_
        refine a_bipush (v := (nI 8)) rfl rfl rfl ?_
        refine a_aload_0 rfl rfl ?_
        refine a_geti rfl rfl rfl (fun _ _ _ => rfl) ?_
        refine a_as (y := mo) x1 ?_
        refine a_iconst (v := (-1)) rfl rfl rfl ?_
        refine a_cmp_eq rfl rfl rfl (fun _ => ?_) (fun c_53 => by first | exact absurd x2 c_53 | exact absurd c_53 x2)
        refine a_iconst (v := (nI 0)) rfl rfl rfl ?_
        refine a_iast rfl rfl rfl rfl (by omega) (by decide) ?_
        exact C0
      · obtain ⟨n, hn, en⟩ := inC_of x2
        subst en
        have ek : h 12 n = A (38 + n) := (hfm n hn).1
        have t0 : (nI n).toInt.toNat = n := by rw [nI_toInt (by omega)]; rfl
        by_cases hk : A (38 + n) = nI 3
        · have eb : bdV A (nI n) = 1 := by unfold bdV; rw [if_pos ⟨nI_ne_m1 (by omega), by rw [t0]; exact hk⟩]
          have C0 := C
          simp only [h1] at C0
          rw [eb] at C0
          show avA _ 102 0 [.ref 8, .ref 62] [] _ _
          refine a_aload_0 rfl rfl ?_
          refine a_iconst (v := (nI 1)) rfl rfl rfl ?_
          refine a_virtI rfl rfl (e_ltells 1 (by omega) fl hl') (Nat.le_of_ble_eq_true rfl) ⟨rfl, rfl, rfl, rfl⟩ rfl rfl rfl (Nat.le_of_ble_eq_true rfl) rfl rfl ?_
          refine a_ifb_ne rfl rfl rfl (fun _ => ?_) (fun c_5 => by first | exact absurd (by rw [hf1]; rfl) c_5 | exact absurd c_5 (by rw [hf1]; rfl))
          refine a_aload_0 rfl rfl ?_
          refine a_getr rfl rfl rfl (fun _ _ _ => rfl) rfl ?_
          refine a_aload_0 rfl rfl ?_
          refine a_geti rfl rfl rfl (fun _ _ _ => rfl) ?_
          refine a_as (y := nI (ho)) x3 ?_
          refine a_aload_0 rfl rfl ?_
          refine a_geti rfl rfl rfl (fun _ _ _ => rfl) ?_
          refine a_as (y := nI sz) x4 ?_
          refine a_virt0 rfl rfl (e_setTime_36 ho (nI sz) x8) (Nat.le_of_ble_eq_true rfl) ⟨rfl, rfl, rfl, rfl⟩ rfl rfl rfl (Nat.le_of_ble_eq_true rfl) rfl rfl ?_
          refine a_aload_0 rfl rfl ?_
          refine a_getr rfl rfl rfl (fun _ _ _ => rfl) rfl ?_
          refine a_getr rfl rfl rfl (fun _ _ _ => rfl) rfl ?_
          refine a_bipush (v := (nI 7)) rfl rfl rfl ?_
          refine a_aload_1 rfl rfl ?_
          refine a_geti rfl rfl rfl (fun _ _ _ => rfl) ?_
          refine a_iast rfl rfl rfl rfl (by omega) (by decide) ?_
          refine a_aload_0 rfl rfl ?_
          refine a_getr rfl rfl rfl (fun _ _ _ => rfl) rfl ?_
          refine a_getr rfl rfl rfl (fun _ _ _ => rfl) rfl ?_
          refine a_bipush (v := (nI 8)) rfl rfl rfl ?_
          refine a_aload_0 rfl rfl ?_
          refine a_geti rfl rfl rfl (fun _ _ _ => rfl) ?_
          refine a_as (y := nI n) x1 ?_
          refine a_iconst (v := (-1)) rfl rfl rfl ?_
          refine a_cmp_eq rfl rfl rfl (fun c_53 => by first | exact absurd c_53 (nI_ne_m1 (by omega)) | exact absurd (nI_ne_m1 (by omega)) c_53) (fun _ => ?_)
          refine a_aload_0 rfl rfl ?_
          refine a_getr rfl rfl rfl (fun _ _ _ => rfl) rfl ?_
          refine a_getr rfl rfl rfl (fun _ _ _ => rfl) rfl ?_
          refine a_aload_0 rfl rfl ?_
          refine a_geti rfl rfl rfl (fun _ _ _ => rfl) ?_
          refine a_as (y := nI (n)) x1 ?_
          refine a_iald rfl rfl (Or.inl rfl) rfl (by omega) (by decide) ?_
          refine a_as (y := nI 3) (ek.trans hk) ?_
          refine a_iconst (v := (nI 3)) rfl rfl rfl ?_
          refine a_cmp_ne rfl rfl rfl (fun c_69 => by first | exact absurd c_69 (not_not_intro rfl) | exact absurd (not_not_intro rfl) c_69) (fun _ => ?_)
          refine a_iconst (v := (nI 1)) rfl rfl rfl ?_
          refine a_goto rfl rfl ?_
          refine a_iast rfl rfl rfl rfl (by omega) (by decide) ?_
          exact C0
        · have eb : bdV A (nI n) = 0 := by unfold bdV; rw [if_neg (fun q => hk (by have := q.2; rw [t0] at this; exact this))]
          have C0 := C
          simp only [h1] at C0
          rw [eb] at C0
          show avA _ 102 0 [.ref 8, .ref 62] [] _ _
          refine a_aload_0 rfl rfl ?_
          refine a_iconst (v := (nI 1)) rfl rfl rfl ?_
          refine a_virtI rfl rfl (e_ltells 1 (by omega) fl hl') (Nat.le_of_ble_eq_true rfl) ⟨rfl, rfl, rfl, rfl⟩ rfl rfl rfl (Nat.le_of_ble_eq_true rfl) rfl rfl ?_
          refine a_ifb_ne rfl rfl rfl (fun _ => ?_) (fun c_5 => by first | exact absurd (by rw [hf1]; rfl) c_5 | exact absurd c_5 (by rw [hf1]; rfl))
          refine a_aload_0 rfl rfl ?_
          refine a_getr rfl rfl rfl (fun _ _ _ => rfl) rfl ?_
          refine a_aload_0 rfl rfl ?_
          refine a_geti rfl rfl rfl (fun _ _ _ => rfl) ?_
          refine a_as (y := nI (ho)) x3 ?_
          refine a_aload_0 rfl rfl ?_
          refine a_geti rfl rfl rfl (fun _ _ _ => rfl) ?_
          refine a_as (y := nI sz) x4 ?_
          refine a_virt0 rfl rfl (e_setTime_36 ho (nI sz) x8) (Nat.le_of_ble_eq_true rfl) ⟨rfl, rfl, rfl, rfl⟩ rfl rfl rfl (Nat.le_of_ble_eq_true rfl) rfl rfl ?_
          refine a_aload_0 rfl rfl ?_
          refine a_getr rfl rfl rfl (fun _ _ _ => rfl) rfl ?_
          refine a_getr rfl rfl rfl (fun _ _ _ => rfl) rfl ?_
          refine a_bipush (v := (nI 7)) rfl rfl rfl ?_
          refine a_aload_1 rfl rfl ?_
          refine a_geti rfl rfl rfl (fun _ _ _ => rfl) ?_
          refine a_iast rfl rfl rfl rfl (by omega) (by decide) ?_
          refine a_aload_0 rfl rfl ?_
          refine a_getr rfl rfl rfl (fun _ _ _ => rfl) rfl ?_
          refine a_getr rfl rfl rfl (fun _ _ _ => rfl) rfl ?_
          refine a_bipush (v := (nI 8)) rfl rfl rfl ?_
          refine a_aload_0 rfl rfl ?_
          refine a_geti rfl rfl rfl (fun _ _ _ => rfl) ?_
          refine a_as (y := nI n) x1 ?_
          refine a_iconst (v := (-1)) rfl rfl rfl ?_
          refine a_cmp_eq rfl rfl rfl (fun c_53 => by first | exact absurd c_53 (nI_ne_m1 (by omega)) | exact absurd (nI_ne_m1 (by omega)) c_53) (fun _ => ?_)
          refine a_aload_0 rfl rfl ?_
          refine a_getr rfl rfl rfl (fun _ _ _ => rfl) rfl ?_
          refine a_getr rfl rfl rfl (fun _ _ _ => rfl) rfl ?_
          refine a_aload_0 rfl rfl ?_
          refine a_geti rfl rfl rfl (fun _ _ _ => rfl) ?_
          refine a_as (y := nI (n)) x1 ?_
          refine a_iald rfl rfl (Or.inl rfl) rfl (by omega) (by decide) ?_
          refine a_as (y := A (38 + n)) ek ?_
          refine a_iconst (v := (nI 3)) rfl rfl rfl ?_
          refine a_cmp_ne rfl rfl rfl (fun _ => ?_) (fun c_69 => by first | exact absurd hk c_69 | exact absurd c_69 hk)
          refine a_iconst (v := (nI 0)) rfl rfl rfl ?_
          refine a_iast rfl rfl rfl rfl (by omega) (by decide) ?_
          exact C0
theorem e_kicksOf_62 (fl : Nat → Option (E1 → Int)) (A : Nat → Int32) (mo : Int32) (R ho sz b : Nat) (hb : b < 5) (H : LW fl A h t lt mo R ho sz) (hm : 0 ≤ (h 64 b).toInt ∧ (h 64 b).toInt ≤ 9999) (ha : 0 ≤ (h 63 b).toInt ∧ (h 63 b).toInt ≤ 9999) : ∃ h', avE 4 110 [.ref 8, .ref 62, .int (nI b)] (sX L t lt rt rp sw h gl) (some (.int (nI (kcV fl A ho sz mo (h 64 b) (h 63 b) b))), sX L t lt rt rp sw h' gl) ∧ CF [34, 35, 37, 38, 39] h h' ∧ LWf (fl 0) A h' R ho sz := by
  have H' := H
  obtain ⟨⟨x1, x2, x3, x4, x5, x6, x7, x8, x9, x10, x11⟩, hf, hl, hA, hfm⟩ := H
  cases hf2 : fl 2 with
  | none =>
    have e : kcV fl A ho sz mo (h 64 b) (h 63 b) b = ltC (fl 0) A ho sz mo (h 63 b) / 3 := by unfold kcV; rw [hf2]
    rw [e]
    obtain ⟨h', C, c1, f1⟩ := e_lightAt (L := L) (t := t) (lt := lt) (rt := rt) (rp := rp) (sw := sw) (gl := gl) fl A mo (h 63 b) R ho sz H'
    have hb2 := ltC_le (fl 0) A ho sz mo (h 63 b)
    refine ⟨h', ?_, CF_mono (by decide) c1, f1⟩
    show avA _ 110 0 [.ref 8, .ref 62, .int (nI (b))] [] _ _
    refine a_aload_0 rfl rfl ?_
    refine a_iconst (v := (nI 2)) rfl rfl rfl ?_
    refine a_virtI rfl rfl (e_ltells 2 (by omega) fl hl) (Nat.le_of_ble_eq_true rfl) ⟨rfl, rfl, rfl, rfl⟩ rfl rfl rfl (Nat.le_of_ble_eq_true rfl) rfl rfl ?_
    refine a_ifb_ne rfl rfl rfl (fun c_5 => by first | exact absurd c_5 (by rw [hf2]; decide) | exact absurd (by rw [hf2]; decide) c_5) (fun _ => ?_)
    refine a_aload_0 rfl rfl ?_
    refine a_aload_1 rfl rfl ?_
    refine a_getr rfl rfl rfl (fun _ _ _ => rfl) rfl ?_
    refine a_iload_2 rfl rfl ?_
    refine a_iald rfl rfl (Or.inl rfl) rfl (by omega) (by decide) ?_
    refine a_virtI rfl rfl (C) (Nat.le_of_ble_eq_true rfl) ⟨rfl, rfl, rfl, rfl⟩ rfl rfl rfl (Nat.le_of_ble_eq_true rfl) rfl rfl ?_
    refine a_iconst (v := (nI 3)) rfl rfl rfl ?_
    refine a_idivN rfl rfl (by omega) (by omega) (by omega) ?_
    exact a_iret rfl rfl
  | some f =>
    have e : kcV fl A ho sz mo (h 64 b) (h 63 b) b = clN (f (kcE (fl 0) A ho sz mo (h 64 b) (h 63 b) b)) 10 := by unfold kcV; rw [hf2]
    rw [e]
    cases lt with
    | none => exact absurd (hl 2 (by omega)) (by rw [hf2]; simp)
    | some o =>
      have hl' := hl
      obtain ⟨x, hx, rfl, hl2⟩ := hl
      have hl1 := hl2 2 (by omega)
      rw [hf2] at hl1
      let h1 : Nat → Nat → Int32 := mvPut (mvPut (mvPut (mvPut (mvPut (mvPut h 38 0 (nI ho)) 38 1 (nI (ho / 24 % 30))) 38 2 (nI sz)) 38 9 (h 64 b)) 38 10 (nI b)) 38 6 (h 63 b)
      have c1 : CF [38] h h1 := CF_put (CF_put (CF_put (CF_put (CF_put (CF_put CF_refl rfl) rfl) rfl) rfl) rfl) rfl
      have H1 : LW fl A h1 t (some (98 + 7 * x)) mo R ho sz := LW_cf rfl (fun p hp => by simp; omega) H' c1 hf
      have hE : eOK (kcE (fl 0) A ho sz mo (h 64 b) (h 63 b) b) := kcE_OK x8 (by omega) hm ha (by omega)
      have hN1 : ∀ j, nmOk 2 j = true → h1 38 j = iI ((kcE (fl 0) A ho sz mo (h 64 b) (h 63 b) b).1 j) := by
        intro j hj
        have := of_decide_eq_true hj
        have hj9 : j < 11 := by omega
        match j, hj9 with
        | 0, _ => exact (iI_nat ho).symm
        | 1, _ => exact (iI_nat (ho / 24 % 30)).symm
        | 2, _ => exact (iI_nat sz).symm
        | 3, _ => omega
        | 4, _ => omega
        | 5, _ => omega
        | 6, _ => exact iI_of _
        | 7, _ => omega
        | 8, _ => omega
        | 9, _ => exact iI_of _
        | 10, _ => exact (iI_nat b).symm
      obtain ⟨h', C, c2, f2⟩ := k_reckon_36 (L := L) (rt := rt) (rp := rp) (sw := sw) (gl := gl) x hx 2 (by omega) f (lawC_fr (fun p hp => c1 p (by simp; omega)) (by omega) hl1) _ hE hN1 fl A mo R ho sz H1 (fun v _ => rfl)
      have fb := hl1.1 _ hE
      refine ⟨h', ?_, CF_trans (CF_mono (by decide) c1) (CF_mono (by decide) c2), f2⟩
      show avA _ 110 0 [.ref 8, .ref 62, .int (nI (b))] [] _ _
      refine a_aload_0 rfl rfl ?_
      refine a_iconst (v := (nI 2)) rfl rfl rfl ?_
      refine a_virtI rfl rfl (e_ltells 2 (by omega) fl hl') (Nat.le_of_ble_eq_true rfl) ⟨rfl, rfl, rfl, rfl⟩ rfl rfl rfl (Nat.le_of_ble_eq_true rfl) rfl rfl ?_
      refine a_ifb_ne rfl rfl rfl (fun _ => ?_) (fun c_5 => by first | exact absurd (by rw [hf2]; rfl) c_5 | exact absurd c_5 (by rw [hf2]; rfl))
      refine a_aload_0 rfl rfl ?_
      refine a_getr rfl rfl rfl (fun _ _ _ => rfl) rfl ?_
      refine a_aload_0 rfl rfl ?_
      refine a_geti rfl rfl rfl (fun _ _ _ => rfl) ?_
      refine a_as (y := nI (ho)) x3 ?_
      refine a_aload_0 rfl rfl ?_
      refine a_geti rfl rfl rfl (fun _ _ _ => rfl) ?_
      refine a_as (y := nI sz) x4 ?_
      refine a_virt0 rfl rfl (e_setTime_36 ho (nI sz) x8) (Nat.le_of_ble_eq_true rfl) ⟨rfl, rfl, rfl, rfl⟩ rfl rfl rfl (Nat.le_of_ble_eq_true rfl) rfl rfl ?_
      refine a_aload_0 rfl rfl ?_
      refine a_getr rfl rfl rfl (fun _ _ _ => rfl) rfl ?_
      refine a_getr rfl rfl rfl (fun _ _ _ => rfl) rfl ?_
      refine a_bipush (v := (nI 9)) rfl rfl rfl ?_
      refine a_aload_1 rfl rfl ?_
      refine a_getr rfl rfl rfl (fun _ _ _ => rfl) rfl ?_
      refine a_iload_2 rfl rfl ?_
      refine a_iald rfl rfl (Or.inl rfl) rfl (by omega) (by decide) ?_
      refine a_iast rfl rfl rfl rfl (by omega) (by decide) ?_
      refine a_aload_0 rfl rfl ?_
      refine a_getr rfl rfl rfl (fun _ _ _ => rfl) rfl ?_
      refine a_getr rfl rfl rfl (fun _ _ _ => rfl) rfl ?_
      refine a_bipush (v := (nI 10)) rfl rfl rfl ?_
      refine a_iload_2 rfl rfl ?_
      refine a_iast rfl rfl rfl rfl (by omega) (by decide) ?_
      refine a_aload_0 rfl rfl ?_
      refine a_getr rfl rfl rfl (fun _ _ _ => rfl) rfl ?_
      refine a_getr rfl rfl rfl (fun _ _ _ => rfl) rfl ?_
      refine a_bipush (v := (nI 6)) rfl rfl rfl ?_
      refine a_aload_1 rfl rfl ?_
      refine a_getr rfl rfl rfl (fun _ _ _ => rfl) rfl ?_
      refine a_iload_2 rfl rfl ?_
      refine a_iald rfl rfl (Or.inl rfl) rfl (by omega) (by decide) ?_
      refine a_iast rfl rfl rfl rfl (by omega) (by decide) ?_
      refine a_aload_0 rfl rfl ?_
      refine a_getr rfl rfl rfl (fun _ _ _ => rfl) rfl ?_
      refine a_aload_0 rfl rfl ?_
      refine a_getr rfl rfl rfl (fun _ _ _ => rfl) rfl ?_
      refine a_iconst (v := (nI 2)) rfl rfl rfl ?_
      refine a_aload_0 rfl rfl ?_
      refine a_virtI rfl rfl (C) (Nat.le_of_ble_eq_true rfl) ⟨rfl, rfl, rfl, rfl⟩ rfl rfl rfl (Nat.le_of_ble_eq_true rfl) rfl rfl ?_
      refine a_bipush (v := (nI 10)) rfl rfl rfl ?_
      refine a_statI rfl rfl (e_clipZ _ 10 fb (by omega)) (Nat.le_of_ble_eq_true rfl) ⟨rfl, rfl, rfl⟩ rfl rfl rfl (Nat.le_of_ble_eq_true rfl) rfl ?_
      exact a_iret rfl rfl
end AK
