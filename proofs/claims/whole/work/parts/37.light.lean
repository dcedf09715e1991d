/-! LIGHT: what a cell gets -/
def CF (S : List Nat) (h h' : Nat → Nat → Int32) : Prop := ∀ o, S.contains o = false → h' o = h o
theorem CF_refl {S : List Nat} {h : Nat → Nat → Int32} : CF S h h := fun _ _ => rfl
theorem CF_up {S : List Nat} {h h' : Nat → Nat → Int32} {o : Nat} {F : Nat → Int32} (H : CF S h h') (ho : S.contains o = true) : CF S h (va_up h' o F) := fun p hp => by
  rw [va_up_ne _ _ (fun e => by rw [e, ho] at hp; exact absurd hp (by decide))]
  exact H p hp
theorem CF_put {S : List Nat} {h h' : Nat → Nat → Int32} {o k : Nat} {v : Int32} (H : CF S h h') (ho : S.contains o = true) : CF S h (mvPut h' o k v) := CF_up H ho
theorem CF_trans {S : List Nat} {h h' h'' : Nat → Nat → Int32} (H : CF S h h') (H2 : CF S h' h'') : CF S h h'' := fun o ho => (H2 o ho).trans (H o ho)
theorem CF_mono {S T : List Nat} {h h' : Nat → Nat → Int32} (hS : ∀ o ∈ S, T.contains o = true) (H : CF S h h') : CF T h h' := fun o ho => H o (by
  cases c : S.contains o
  · rfl
  · have := hS o (List.contains_iff_mem.mp c)
    rw [ho] at this
    exact absurd this (by decide))
theorem sub_Z (a b : Nat) : nI a - nI b = iI ((a : Int) - b) := by
  rw [← iI_nat, ← iI_nat]
  exact (Int32.ofInt_sub _ _).symm
theorem m1_Z : (-1 : Int32) = iI (-1) := by decide
/-- cells as they are told -/
def clOK (A : Nat → Int32) : Prop := ∀ c, c < 30 → (∃ k, k < 4 ∧ A (38 + c) = nI k) ∧ ∃ k, k ≤ 9 ∧ A (68 + c) = nI k
def shE (A : Nat → Int32) (ho sz s c : Nat) : E1 := (fun j => match j with
  | 0 => (ho : Int)
  | 1 => ((ho / 24 % 30 : Nat) : Int)
  | 2 => (sz : Int)
  | 3 => (s : Int)
  | 4 => (A (38 + c)).toInt
  | 5 => (A (68 + c)).toInt
  | 6 => (c : Int)
  | _ => 0, fun _ => 0)
theorem shE_OK {A : Nat → Int32} {ho sz s c : Nat} (hA : clOK A) (h1 : ho ≤ 9999) (h2 : sz ≤ 30) (h3 : s < 30) (h4 : c < 30) : eOK (shE A ho sz s c) := by
  obtain ⟨⟨k, hk, e1⟩, ⟨m, hm, e2⟩⟩ := hA c h4
  refine ⟨fun j => ?_, fun x => (by show (-1000000 : Int) ≤ 0 ∧ (0 : Int) ≤ 1000000; omega)⟩
  match j with
  | 0 => show (-1000000 : Int) ≤ (ho : Int) ∧ (ho : Int) ≤ 1000000; omega
  | 1 => show (-1000000 : Int) ≤ ((ho / 24 % 30 : Nat) : Int) ∧ ((ho / 24 % 30 : Nat) : Int) ≤ 1000000; omega
  | 2 => show (-1000000 : Int) ≤ (sz : Int) ∧ (sz : Int) ≤ 1000000; omega
  | 3 => show (-1000000 : Int) ≤ (s : Int) ∧ (s : Int) ≤ 1000000; omega
  | 4 => show (-1000000 : Int) ≤ (A (38 + c)).toInt ∧ (A (38 + c)).toInt ≤ 1000000; rw [e1, nI_toInt (by omega)]; omega
  | 5 => show (-1000000 : Int) ≤ (A (68 + c)).toInt ∧ (A (68 + c)).toInt ≤ 1000000; rw [e2, nI_toInt (by omega)]; omega
  | 6 => show (-1000000 : Int) ≤ (c : Int) ∧ (c : Int) ≤ 1000000; omega
  | n + 7 => show (-1000000 : Int) ≤ 0 ∧ (0 : Int) ≤ 1000000; omega
def shZ (f0 : Option (E1 → Int)) (A : Nat → Int32) (ho sz s c : Nat) : Int := match f0 with
  | some f => f (shE A ho sz s c)
  | none => (sz : Int) - 2 * s
def shV (f0 : Option (E1 → Int)) (A : Nat → Int32) (ho sz s c : Nat) : Nat := clN (shZ f0 A ho sz s c) 15
theorem clN_le (v : Int) (m : Nat) : clN v m ≤ m := by unfold clN; omega
def ltV (f0 : Option (E1 → Int)) (A : Nat → Int32) (ho sz : Nat) (mo : Int32) (c : Nat) : Nat := if frF (frA A) mo c = -1 then 0 else shV f0 A ho sz (frF (frA A) mo c).toInt.toNat c
theorem ltV_le (f0 : Option (E1 → Int)) (A : Nat → Int32) (ho sz : Nat) (mo : Int32) (c : Nat) : ltV f0 A ho sz mo c ≤ 15 := by
  unfold ltV
  split
  · omega
  · exact clN_le _ _
def ltC (f0 : Option (E1 → Int)) (A : Nat → Int32) (ho sz : Nat) (mo : Int32) (c : Int32) : Nat := if inC c then ltV f0 A ho sz mo c.toInt.toNat else 0
theorem ltC_N (f0 : Option (E1 → Int)) (A : Nat → Int32) (ho sz : Nat) (mo : Int32) {c : Nat} (hc : c < 30) : ltC f0 A ho sz mo (nI c) = ltV f0 A ho sz mo c := by
  unfold ltC
  rw [if_pos (inC_nI hc), nI_toInt (by omega)]
  rfl
theorem ltC_le (f0 : Option (E1 → Int)) (A : Nat → Int32) (ho sz : Nat) (mo c : Int32) : ltC f0 A ho sz mo c ≤ 15 := by
  unfold ltC
  split
  · exact ltV_le _ _ _ _ _ _
  · omega
theorem fr_out (op : Nat → Bool) (c : Nat) (hc : c < 30) : frF op (-1) c = -1 := by
  refine (fk_none (by omega)).mpr fun m _ => ?_
  exact grow_empty (fun j hj => by
    show (decide ((-1 : Int32) = nI j) && op j) = false
    rw [decide_eq_false (fun e => nI_ne_m1 (by omega) e.symm)]
    rfl) m c hc
/-- the lights found in this round -/
def LWf (f0 : Option (E1 → Int)) (A : Nat → Int32) (h : Nat → Nat → Int32) (R ho sz : Nat) : Prop := ∀ k, k < 900 → ∃ v : Nat, h 39 k = nI v ∧ v / 16 ≤ R ∧ (v / 16 = R → v % 16 = shV f0 A ho sz (k / 30) (k % 30))
def LWx (A : Nat → Int32) (h : Nat → Nat → Int32) (mo : Int32) (R ho sz : Nat) : Prop := h 8 5 = mo ∧ (mo = -1 ∨ inC mo) ∧ h 8 6 = nI ho ∧ h 8 7 = nI sz ∧ h 8 9 = nI R ∧ 1 ≤ R ∧ R < 67108864 ∧ ho ≤ 9999 ∧ sz ≤ 15 ∧ rPth (frA A) (h 9) (h 10) ∧ ∀ n, n < 30 → mo = nI n → ∀ c, c < 30 → h 10 (n * 30 + c) = frF (frA A) mo c
def ltR (h : Nat → Nat → Int32) (t : Nat) (lt : Option Nat) (fl : Nat → Option (E1 → Int)) : Prop := match lt with
  | none => ∀ s, s < 3 → fl s = none
  | some o => ∃ x, x < t ∧ o = 98 + 7 * x ∧ ∀ s, s < 3 → lawC h o s (fl s)
theorem lawC_fr {h h' : Nat → Nat → Int32} {o s : Nat} {fo : Option (E1 → Int)} (e : ∀ p, 98 ≤ p → h' p = h p) (ho : 98 ≤ o) (H : lawC h o s fo) : lawC h' o s fo := by
  cases fo with
  | none => show h' (o + 5) s = -1; rw [e _ (by omega)]; exact H
  | some f =>
    obtain ⟨hf, st, en, len, e1, e2, e3, l⟩ := H
    refine ⟨hf, st, en, len, ?_, ?_, ?_, ?_⟩
    · rw [e _ (by omega)]; exact e1
    · rw [e _ (by omega)]; exact e2
    · rw [e _ ho]; exact e3
    · rw [e _ (by omega)]; exact l
theorem ltR_fr {h h' : Nat → Nat → Int32} {t : Nat} {lt : Option Nat} {fl : Nat → Option (E1 → Int)} (e : ∀ p, 98 ≤ p → h' p = h p) (H : ltR h t lt fl) : ltR h' t lt fl := by
  cases lt with
  | none => exact H
  | some o =>
    obtain ⟨x, hx, eo, hl⟩ := H
    exact ⟨x, hx, eo, fun s hs => lawC_fr e (by omega) (hl s hs)⟩
/-- the farm's cells, as the class has them -/
def fmR (A : Nat → Int32) (h : Nat → Nat → Int32) : Prop := clOK A ∧ ∀ c, c < 30 → h 12 c = A (38 + c) ∧ h 13 c = A (68 + c)
/-- all that light needs -/
def LW (fl : Nat → Option (E1 → Int)) (A : Nat → Int32) (h : Nat → Nat → Int32) (t : Nat) (lt : Option Nat) (mo : Int32) (R ho sz : Nat) : Prop := LWx A h mo R ho sz ∧ LWf (fl 0) A h R ho sz ∧ ltR h t lt fl ∧ fmR A h
section LI
variable {L t : Nat} {lt rt rp : Option Nat} {sw : Bool} {h : Nat → Nat → Int32} {gl : Nat → Nat → Int64}
theorem e_ttells (x s : Nat) (hx : x < t) (hs : s < 3) (fo : Option (E1 → Int)) (H : lawC h (98 + 7 * x) s fo) : avE 0 60 [.ref (98 + 7 * x), .int (nI s)] (sX L t lt rt rp sw h gl) (some (.int (bI (fo.isSome = true))), sX L t lt rt rp sw h gl) := by
  cases fo with
  | none =>
    show avA _ 60 0 [.ref (98 + 7 * x), .int (nI (s))] [] _ _
    refine a_aload_0 rfl rfl ?_
    refine a_getr rfl rfl (congrArg Prod.fst (tx_t hx)) (fun _ _ _ => rfl) (tx_r6 hx) ?_
    refine a_iload_1 rfl rfl ?_
    refine a_iald rfl rfl (Or.inl (tx_5 hx)) rfl (by omega) (by decide) ?_
    refine a_as (y := -1) H ?_
    refine a_iconst (v := (-1)) rfl rfl rfl ?_
    refine a_cmp_eq rfl rfl rfl (fun _ => ?_) (fun c_7 => by first | exact absurd rfl c_7 | exact absurd c_7 rfl)
    refine a_iconst (v := (nI 0)) rfl rfl rfl ?_
    refine av_to (a_zret rfl rfl (Or.inl rfl)) (bz0 ?_)
    decide
  | some f =>
    obtain ⟨hf, st, en, len, e1, e2, e3, l1, l2, l3, l⟩ := H
    show avA _ 60 0 [.ref (98 + 7 * x), .int (nI (s))] [] _ _
    refine a_aload_0 rfl rfl ?_
    refine a_getr rfl rfl (congrArg Prod.fst (tx_t hx)) (fun _ _ _ => rfl) (tx_r6 hx) ?_
    refine a_iload_1 rfl rfl ?_
    refine a_iald rfl rfl (Or.inl (tx_5 hx)) rfl (by omega) (by decide) ?_
    refine a_as (y := nI st) e1 ?_
    refine a_iconst (v := (-1)) rfl rfl rfl ?_
    refine a_cmp_eq rfl rfl rfl (fun c_7 => by first | exact absurd c_7 (nI_ne_m1 (by omega)) | exact absurd (nI_ne_m1 (by omega)) c_7) (fun _ => ?_)
    refine a_iconst (v := (nI 1)) rfl rfl rfl ?_
    refine a_goto rfl rfl ?_
    refine av_to (a_zret rfl rfl (Or.inr rfl)) (bz1 ?_)
    rfl
theorem e_ltells (s : Nat) (hs : s < 3) (fl : Nat → Option (E1 → Int)) (H : ltR h t lt fl) : avE 1 103 [.ref 8, .int (nI s)] (sX L t lt rt rp sw h gl) (some (.int (bI ((fl s).isSome = true))), sX L t lt rt rp sw h gl) := by
  cases lt with
  | none =>
    have e := H s hs
    show avA _ 103 0 [.ref 8, .int (nI (s))] [] _ _
    refine a_aload_0 rfl rfl ?_
    refine a_getv rfl rfl rfl (fun _ _ _ => rfl) ?_
    refine a_isN rfl ?_
    refine a_ifnullN rfl rfl ?_
    refine a_iconst (v := (nI 0)) rfl rfl rfl ?_
    refine av_to (a_zret rfl rfl (Or.inl rfl)) (bz0 ?_)
    rw [e]; decide
  | some o =>
    obtain ⟨x, hx, rfl, hl⟩ := H
    show avA _ 103 0 [.ref 8, .int (nI (s))] [] _ _
    refine a_aload_0 rfl rfl ?_
    refine a_getr rfl rfl rfl (fun _ _ _ => rfl) rfl ?_
    refine a_ifnull rfl rfl tx_n6 ?_
    refine a_aload_0 rfl rfl ?_
    refine a_getr rfl rfl rfl (fun _ _ _ => rfl) rfl ?_
    refine a_iload_1 rfl rfl ?_
    refine a_virtI rfl rfl (e_ttells x s hx hs (fl s) (hl s hs)) (Nat.le_of_ble_eq_true rfl) ⟨rfl, rfl, rfl, rfl⟩ rfl rfl rfl (Nat.le_of_ble_eq_true rfl) (congrArg Prod.fst (tx_t hx)) rfl ?_
    refine a_ifb_eq rfl rfl rfl (fun c_15 => ?_) (fun c_15 => ?_)
    · refine a_iconst (v := (nI 0)) rfl rfl rfl ?_
      refine av_to (a_zret rfl rfl (Or.inl rfl)) (bz0 ?_)
      first | exact c_15 | exact fun q => c_15 q
    · refine a_iconst (v := (nI 1)) rfl rfl rfl ?_
      refine a_goto rfl rfl ?_
      refine av_to (a_zret rfl rfl (Or.inr rfl)) (bz1 ?_)
      first | exact c_15 | exact fun q => c_15 q
theorem e_setTime_33 (ho : Nat) (sz : Int32) (hh : ho ≤ 9999) : avE 1 104 [.ref 33, .int (nI ho), .int sz] (sX L t lt rt rp sw h gl) (none, sX L t lt rt rp sw (mvPut (mvPut (mvPut h 35 0 (nI ho)) 35 1 (nI (ho / 24 % 30))) 35 2 sz) gl) := by
  show avA _ 104 0 [.ref 33, .int (nI (ho)), .int (sz)] [] _ _
  refine a_aload_0 rfl rfl ?_
  refine a_getr rfl rfl rfl (fun _ _ _ => rfl) rfl ?_
  refine a_iconst (v := (nI 0)) rfl rfl rfl ?_
  refine a_iload_1 rfl rfl ?_
  refine a_iast rfl rfl rfl rfl (by omega) (by decide) ?_
  refine a_aload_0 rfl rfl ?_
  refine a_getr rfl rfl rfl (fun _ _ _ => rfl) rfl ?_
  refine a_iconst (v := (nI 1)) rfl rfl rfl ?_
  refine a_iload_1 rfl rfl ?_
  refine a_statI rfl rfl (e_phaseAt ho (by omega)) (Nat.le_of_ble_eq_true rfl) ⟨rfl, rfl, rfl⟩ rfl rfl rfl (Nat.le_of_ble_eq_true rfl) rfl ?_
  refine a_iast rfl rfl rfl rfl (by omega) (by decide) ?_
  refine a_aload_0 rfl rfl ?_
  refine a_getr rfl rfl rfl (fun _ _ _ => rfl) rfl ?_
  refine a_iconst (v := (nI 2)) rfl rfl rfl ?_
  refine a_iload_2 rfl rfl ?_
  refine a_iast rfl rfl rfl rfl (by omega) (by decide) ?_
  exact a_vret rfl rfl
theorem e_setTime_36 (ho : Nat) (sz : Int32) (hh : ho ≤ 9999) : avE 1 104 [.ref 36, .int (nI ho), .int sz] (sX L t lt rt rp sw h gl) (none, sX L t lt rt rp sw (mvPut (mvPut (mvPut h 38 0 (nI ho)) 38 1 (nI (ho / 24 % 30))) 38 2 sz) gl) := by
  show avA _ 104 0 [.ref 36, .int (nI (ho)), .int (sz)] [] _ _
  refine a_aload_0 rfl rfl ?_
  refine a_getr rfl rfl rfl (fun _ _ _ => rfl) rfl ?_
  refine a_iconst (v := (nI 0)) rfl rfl rfl ?_
  refine a_iload_1 rfl rfl ?_
  refine a_iast rfl rfl rfl rfl (by omega) (by decide) ?_
  refine a_aload_0 rfl rfl ?_
  refine a_getr rfl rfl rfl (fun _ _ _ => rfl) rfl ?_
  refine a_iconst (v := (nI 1)) rfl rfl rfl ?_
  refine a_iload_1 rfl rfl ?_
  refine a_statI rfl rfl (e_phaseAt ho (by omega)) (Nat.le_of_ble_eq_true rfl) ⟨rfl, rfl, rfl⟩ rfl rfl rfl (Nat.le_of_ble_eq_true rfl) rfl ?_
  refine a_iast rfl rfl rfl rfl (by omega) (by decide) ?_
  refine a_aload_0 rfl rfl ?_
  refine a_getr rfl rfl rfl (fun _ _ _ => rfl) rfl ?_
  refine a_iconst (v := (nI 2)) rfl rfl rfl ?_
  refine a_iload_2 rfl rfl ?_
  refine a_iast rfl rfl rfl rfl (by omega) (by decide) ?_
  exact a_vret rfl rfl
theorem e_lightAt (fl : Nat → Option (E1 → Int)) (A : Nat → Int32) (mo c : Int32) (R ho sz : Nat) (H : LW fl A h t lt mo R ho sz) : ∃ h', avE 2 106 [.ref 8, .int c] (sX L t lt rt rp sw h gl) (some (.int (nI (ltC (fl 0) A ho sz mo c))), sX L t lt rt rp sw h' gl) ∧ CF [34, 35, 39] h h' ∧ LWf (fl 0) A h' R ho sz := by
  obtain ⟨⟨x1, x2, x3, x4, x5, x6, x7, x8, x9, x10, x11⟩, hf, hl, hA, hfm⟩ := H
  by_cases hc : inC c
  · obtain ⟨m, hm, rfl⟩ := inC_of hc
    rw [ltC_N _ _ _ _ _ hm]
    rcases x2 with x2 | x2
    · refine ⟨h, ?_, CF_refl, hf⟩
      have e : ltV (fl 0) A ho sz mo m = 0 := by unfold ltV; rw [if_pos (by rw [x2]; exact fr_out _ _ hm)]
      rw [e]
      show avA _ 106 0 [.ref 8, .int (nI (m)), mvU, mvU] [] _ _
      refine a_aload_0 rfl rfl ?_
      refine a_geti rfl rfl rfl (fun _ _ _ => rfl) ?_
      refine a_as (y := mo) x1 ?_
      refine a_iconst (v := (-1)) rfl rfl rfl ?_
      refine a_cmp_eq rfl rfl rfl (fun _ => ?_) (fun c_5 => by first | exact absurd x2 c_5 | exact absurd c_5 x2)
      refine a_iconst (v := (nI 0)) rfl rfl rfl ?_
      exact a_iret rfl rfl
    · obtain ⟨n, hn, en⟩ := inC_of x2
      subst en
      have st := x11 n hn rfl m hm
      rcases fr_cases (frA A) (nI n) m with q | ⟨s, hs, q⟩
      · refine ⟨h, ?_, CF_refl, hf⟩
        have e : ltV (fl 0) A ho sz (nI n) m = 0 := by unfold ltV; rw [if_pos q]
        rw [e]
        show avA _ 106 0 [.ref 8, .int (nI (m)), mvU, mvU] [] _ _
        refine a_aload_0 rfl rfl ?_
        refine a_geti rfl rfl rfl (fun _ _ _ => rfl) ?_
        refine a_as (y := nI (n)) x1 ?_
        refine a_iconst (v := (-1)) rfl rfl rfl ?_
        refine a_cmp_eq rfl rfl rfl (fun c_5 => by first | exact absurd c_5 (nI_ne_m1 (by omega)) | exact absurd (nI_ne_m1 (by omega)) c_5) (fun _ => ?_)
        refine a_iload_1 rfl rfl ?_
        refine a_statI rfl rfl (e_isCell _) (Nat.le_of_ble_eq_true rfl) ⟨rfl, rfl, rfl⟩ rfl rfl rfl (Nat.le_of_ble_eq_true rfl) rfl ?_
        refine a_ifb_ne rfl rfl rfl (fun _ => ?_) (fun c_12 => by first | exact absurd hc c_12 | exact absurd c_12 hc)
        refine a_aload_0 rfl rfl ?_
        refine a_getr rfl rfl rfl (fun _ _ _ => rfl) rfl ?_
        refine a_getr rfl rfl rfl (fun _ _ _ => rfl) rfl ?_
        refine a_aload_0 rfl rfl ?_
        refine a_geti rfl rfl rfl (fun _ _ _ => rfl) ?_
        refine a_as (y := nI (n)) x1 ?_
        refine a_bipush (v := (nI 30)) rfl rfl rfl ?_
        refine a_imulN rfl rfl ?_
        refine a_iload_1 rfl rfl ?_
        refine a_iaddN rfl rfl ?_
        refine a_iald rfl rfl (Or.inl rfl) rfl (by omega) (by decide) ?_
        refine a_as (y := -1) (st.trans q) ?_
        refine a_istore_2 rfl rfl rfl ?_
        refine a_iload_2 rfl rfl ?_
        refine a_iconst (v := (-1)) rfl rfl rfl ?_
        refine a_cmp_ne rfl rfl rfl (fun c_37 => by first | exact absurd c_37 (not_not_intro rfl) | exact absurd (not_not_intro rfl) c_37) (fun _ => ?_)
        refine a_iconst (v := (nI 0)) rfl rfl rfl ?_
        exact a_iret rfl rfl
      · have ev : ltV (fl 0) A ho sz (nI n) m = shV (fl 0) A ho sz s m := by
          unfold ltV
          rw [if_neg (by rw [q]; exact nI_ne_m1 (by omega)), q, nI_toInt (by omega)]
          rfl
        rw [ev]
        cases hf0 : fl 0 with
        | none =>
          refine ⟨h, ?_, CF_refl, by rw [hf0] at hf; exact hf⟩
          show avA _ 106 0 [.ref 8, .int (nI (m)), mvU, mvU] [] _ _
          refine a_aload_0 rfl rfl ?_
          refine a_geti rfl rfl rfl (fun _ _ _ => rfl) ?_
          refine a_as (y := nI (n)) x1 ?_
          refine a_iconst (v := (-1)) rfl rfl rfl ?_
          refine a_cmp_eq rfl rfl rfl (fun c_5 => by first | exact absurd c_5 (nI_ne_m1 (by omega)) | exact absurd (nI_ne_m1 (by omega)) c_5) (fun _ => ?_)
          refine a_iload_1 rfl rfl ?_
          refine a_statI rfl rfl (e_isCell _) (Nat.le_of_ble_eq_true rfl) ⟨rfl, rfl, rfl⟩ rfl rfl rfl (Nat.le_of_ble_eq_true rfl) rfl ?_
          refine a_ifb_ne rfl rfl rfl (fun _ => ?_) (fun c_12 => by first | exact absurd hc c_12 | exact absurd c_12 hc)
          refine a_aload_0 rfl rfl ?_
          refine a_getr rfl rfl rfl (fun _ _ _ => rfl) rfl ?_
          refine a_getr rfl rfl rfl (fun _ _ _ => rfl) rfl ?_
          refine a_aload_0 rfl rfl ?_
          refine a_geti rfl rfl rfl (fun _ _ _ => rfl) ?_
          refine a_as (y := nI (n)) x1 ?_
          refine a_bipush (v := (nI 30)) rfl rfl rfl ?_
          refine a_imulN rfl rfl ?_
          refine a_iload_1 rfl rfl ?_
          refine a_iaddN rfl rfl ?_
          refine a_iald rfl rfl (Or.inl rfl) rfl (by omega) (by decide) ?_
          refine a_as (y := nI (s)) (st.trans q) ?_
          refine a_istore_2 rfl rfl rfl ?_
          refine a_iload_2 rfl rfl ?_
          refine a_iconst (v := (-1)) rfl rfl rfl ?_
          refine a_cmp_ne rfl rfl rfl (fun _ => ?_) (fun c_37 => by first | exact absurd (nI_ne_m1 (by omega)) c_37 | exact absurd c_37 (nI_ne_m1 (by omega)))
          refine a_aload_0 rfl rfl ?_
          refine a_iconst (v := (nI 0)) rfl rfl rfl ?_
          refine a_virtI rfl rfl (e_ltells 0 (by omega) fl hl) (Nat.le_of_ble_eq_true rfl) ⟨rfl, rfl, rfl, rfl⟩ rfl rfl rfl (Nat.le_of_ble_eq_true rfl) rfl rfl ?_
          refine a_ifb_ne rfl rfl rfl (fun c_47 => by first | exact absurd c_47 (by rw [hf0]; decide) | exact absurd (by rw [hf0]; decide) c_47) (fun _ => ?_)
          refine a_aload_0 rfl rfl ?_
          refine a_geti rfl rfl rfl (fun _ _ _ => rfl) ?_
          refine a_as (y := nI (sz)) x4 ?_
          refine a_iconst (v := (nI 2)) rfl rfl rfl ?_
          refine a_iload_2 rfl rfl ?_
          refine a_imulN rfl rfl ?_
          refine a_isub rfl rfl ?_
          refine a_as (y := iI ((sz : Int) - 2 * s)) (sub_Z _ _) ?_
          refine a_bipush (v := (nI 15)) rfl rfl rfl ?_
          refine a_statI rfl rfl (e_clipZ _ 15 (by omega) (by omega)) (Nat.le_of_ble_eq_true rfl) ⟨rfl, rfl, rfl⟩ rfl rfl rfl (Nat.le_of_ble_eq_true rfl) rfl ?_
          exact a_iret rfl rfl
        | some f =>
          rw [hf0] at hf
          obtain ⟨v, e39, hv1, hv2⟩ := hf (s * 30 + m) (by omega)
          rw [show (s * 30 + m) / 30 = s by omega, show (s * 30 + m) % 30 = m by omega] at hv2
          by_cases hR : v / 16 = R
          · refine ⟨h, ?_, CF_refl, hf⟩
            rw [← hv2 hR]
            show avA _ 106 0 [.ref 8, .int (nI (m)), mvU, mvU] [] _ _
            refine a_aload_0 rfl rfl ?_
            refine a_geti rfl rfl rfl (fun _ _ _ => rfl) ?_
            refine a_as (y := nI (n)) x1 ?_
            refine a_iconst (v := (-1)) rfl rfl rfl ?_
            refine a_cmp_eq rfl rfl rfl (fun c_5 => by first | exact absurd c_5 (nI_ne_m1 (by omega)) | exact absurd (nI_ne_m1 (by omega)) c_5) (fun _ => ?_)
            refine a_iload_1 rfl rfl ?_
            refine a_statI rfl rfl (e_isCell _) (Nat.le_of_ble_eq_true rfl) ⟨rfl, rfl, rfl⟩ rfl rfl rfl (Nat.le_of_ble_eq_true rfl) rfl ?_
            refine a_ifb_ne rfl rfl rfl (fun _ => ?_) (fun c_12 => by first | exact absurd hc c_12 | exact absurd c_12 hc)
            refine a_aload_0 rfl rfl ?_
            refine a_getr rfl rfl rfl (fun _ _ _ => rfl) rfl ?_
            refine a_getr rfl rfl rfl (fun _ _ _ => rfl) rfl ?_
            refine a_aload_0 rfl rfl ?_
            refine a_geti rfl rfl rfl (fun _ _ _ => rfl) ?_
            refine a_as (y := nI (n)) x1 ?_
            refine a_bipush (v := (nI 30)) rfl rfl rfl ?_
            refine a_imulN rfl rfl ?_
            refine a_iload_1 rfl rfl ?_
            refine a_iaddN rfl rfl ?_
            refine a_iald rfl rfl (Or.inl rfl) rfl (by omega) (by decide) ?_
            refine a_as (y := nI (s)) (st.trans q) ?_
            refine a_istore_2 rfl rfl rfl ?_
            refine a_iload_2 rfl rfl ?_
            refine a_iconst (v := (-1)) rfl rfl rfl ?_
            refine a_cmp_ne rfl rfl rfl (fun _ => ?_) (fun c_37 => by first | exact absurd (nI_ne_m1 (by omega)) c_37 | exact absurd c_37 (nI_ne_m1 (by omega)))
            refine a_aload_0 rfl rfl ?_
            refine a_iconst (v := (nI 0)) rfl rfl rfl ?_
            refine a_virtI rfl rfl (e_ltells 0 (by omega) fl hl) (Nat.le_of_ble_eq_true rfl) ⟨rfl, rfl, rfl, rfl⟩ rfl rfl rfl (Nat.le_of_ble_eq_true rfl) rfl rfl ?_
            refine a_ifb_ne rfl rfl rfl (fun _ => ?_) (fun c_47 => by first | exact absurd (by rw [hf0]; rfl) c_47 | exact absurd c_47 (by rw [hf0]; rfl))
            refine a_iload_2 rfl rfl ?_
            refine a_bipush (v := (nI 30)) rfl rfl rfl ?_
            refine a_imulN rfl rfl ?_
            refine a_iload_1 rfl rfl ?_
            refine a_iaddN rfl rfl ?_
            refine a_istore_3 rfl rfl rfl ?_
            refine a_aload_0 rfl rfl ?_
            refine a_getr rfl rfl rfl (fun _ _ _ => rfl) rfl ?_
            refine a_iload_3 rfl rfl ?_
            refine a_iald rfl rfl (Or.inl rfl) rfl (by omega) (by decide) ?_
            refine a_as (y := nI (v)) e39 ?_
            refine a_iconst (v := (nI 4)) rfl rfl rfl ?_
            refine a_ishr rfl rfl ?_
            refine a_as (y := nI (v / 16)) (pk_shrN (by omega) _ 4 (by decide)) ?_
            refine a_aload_0 rfl rfl ?_
            refine a_geti rfl rfl rfl (fun _ _ _ => rfl) ?_
            refine a_as (y := nI (R)) x5 ?_
            refine a_cmpN_eq rfl rfl rfl (by omega) (by omega) (fun _ => ?_) (fun c_83 => False.elim (by omega))
            refine a_aload_0 rfl rfl ?_
            refine a_getr rfl rfl rfl (fun _ _ _ => rfl) rfl ?_
            refine a_iload_3 rfl rfl ?_
            refine a_iald rfl rfl (Or.inl rfl) rfl (by omega) (by decide) ?_
            refine a_as (y := nI (v)) e39 ?_
            refine a_bipush (v := (nI 15)) rfl rfl rfl ?_
            refine a_iand rfl rfl ?_
            refine a_as (y := nI (v % 16)) (pk_andN (by omega) 4 (by decide)) ?_
            exact a_iret rfl rfl
          · cases lt with
            | none => exact absurd (hl 0 (by omega)) (by rw [hf0]; simp)
            | some o =>
              obtain ⟨x, hx, rfl, hl2⟩ := hl
              have hl0 := hl2 0 (by omega)
              rw [hf0] at hl0
              have E := shE_OK (ho := ho) (sz := sz) (s := s) hA x8 (by omega) hs hm
              let h1 : Nat → Nat → Int32 := mvPut (mvPut (mvPut (mvPut (mvPut (mvPut (mvPut h 35 0 (nI ho)) 35 1 (nI (ho / 24 % 30))) 35 2 (nI sz)) 35 3 (nI s)) 35 4 (h 12 m)) 35 5 (h 13 m)) 35 6 (nI m)
              have hn1 : ∀ j, nmOk 0 j = true → h1 35 j = iI ((shE A ho sz s m).1 j) := by
                intro j hj
                have := of_decide_eq_true hj
                have hj7 : j < 7 := by omega
                match j, hj7 with
                | 0, _ => exact (iI_nat ho).symm
                | 1, _ => exact (iI_nat (ho / 24 % 30)).symm
                | 2, _ => exact (iI_nat sz).symm
                | 3, _ => exact (iI_nat s).symm
                | 4, _ => show h 12 m = iI (A (38 + m)).toInt; rw [(hfm m hm).1]; exact iI_of _
                | 5, _ => show h 13 m = iI (A (68 + m)).toInt; rw [(hfm m hm).2]; exact iI_of _
                | 6, _ => exact (iI_nat m).symm
              have hlc : lawC h1 (98 + 7 * x) 0 (some f) := lawC_fr (fun p hp => by
                have c1 : CF [35] h h1 := CF_put (CF_put (CF_put (CF_put (CF_put (CF_put (CF_put CF_refl rfl) rfl) rfl) rfl) rfl) rfl) rfl
                exact c1 p (by simp; omega)) (by omega) hl0
              obtain ⟨F, K⟩ := k_reckon_33 (L := L) (lt := some (98 + 7 * x)) (rt := rt) (rp := rp) (sw := sw) (gl := gl) x hx f hlc _ E hn1
              have fb := (hl0.1) _ E
              have cl := clN_le (f (shE A ho sz s m)) 15
              refine ⟨mvPut (va_up h1 34 F) 39 (s * 30 + m) (nI (R * 16 + clN (f (shE A ho sz s m)) 15)), ?_, CF_put (CF_up (CF_put (CF_put (CF_put (CF_put (CF_put (CF_put (CF_put CF_refl rfl) rfl) rfl) rfl) rfl) rfl) rfl) rfl) rfl, ?_⟩
              · show avA _ 106 0 [.ref 8, .int (nI (m)), mvU, mvU] [] _ _
                refine a_aload_0 rfl rfl ?_
                refine a_geti rfl rfl rfl (fun _ _ _ => rfl) ?_
                refine a_as (y := nI (n)) x1 ?_
                refine a_iconst (v := (-1)) rfl rfl rfl ?_
                refine a_cmp_eq rfl rfl rfl (fun c_5 => by first | exact absurd c_5 (nI_ne_m1 (by omega)) | exact absurd (nI_ne_m1 (by omega)) c_5) (fun _ => ?_)
                refine a_iload_1 rfl rfl ?_
                refine a_statI rfl rfl (e_isCell _) (Nat.le_of_ble_eq_true rfl) ⟨rfl, rfl, rfl⟩ rfl rfl rfl (Nat.le_of_ble_eq_true rfl) rfl ?_
                refine a_ifb_ne rfl rfl rfl (fun _ => ?_) (fun c_12 => by first | exact absurd hc c_12 | exact absurd c_12 hc)
                refine a_aload_0 rfl rfl ?_
                refine a_getr rfl rfl rfl (fun _ _ _ => rfl) rfl ?_
                refine a_getr rfl rfl rfl (fun _ _ _ => rfl) rfl ?_
                refine a_aload_0 rfl rfl ?_
                refine a_geti rfl rfl rfl (fun _ _ _ => rfl) ?_
                refine a_as (y := nI (n)) x1 ?_
                refine a_bipush (v := (nI 30)) rfl rfl rfl ?_
                refine a_imulN rfl rfl ?_
                refine a_iload_1 rfl rfl ?_
                refine a_iaddN rfl rfl ?_
                refine a_iald rfl rfl (Or.inl rfl) rfl (by omega) (by decide) ?_
                refine a_as (y := nI (s)) (st.trans q) ?_
                refine a_istore_2 rfl rfl rfl ?_
                refine a_iload_2 rfl rfl ?_
                refine a_iconst (v := (-1)) rfl rfl rfl ?_
                refine a_cmp_ne rfl rfl rfl (fun _ => ?_) (fun c_37 => by first | exact absurd (nI_ne_m1 (by omega)) c_37 | exact absurd c_37 (nI_ne_m1 (by omega)))
                refine a_aload_0 rfl rfl ?_
                refine a_iconst (v := (nI 0)) rfl rfl rfl ?_
                refine a_virtI rfl rfl (e_ltells 0 (by omega) fl ⟨x, hx, rfl, hl2⟩) (Nat.le_of_ble_eq_true rfl) ⟨rfl, rfl, rfl, rfl⟩ rfl rfl rfl (Nat.le_of_ble_eq_true rfl) rfl rfl ?_
                refine a_ifb_ne rfl rfl rfl (fun _ => ?_) (fun c_47 => by first | exact absurd (by rw [hf0]; rfl) c_47 | exact absurd c_47 (by rw [hf0]; rfl))
                refine a_iload_2 rfl rfl ?_
                refine a_bipush (v := (nI 30)) rfl rfl rfl ?_
                refine a_imulN rfl rfl ?_
                refine a_iload_1 rfl rfl ?_
                refine a_iaddN rfl rfl ?_
                refine a_istore_3 rfl rfl rfl ?_
                refine a_aload_0 rfl rfl ?_
                refine a_getr rfl rfl rfl (fun _ _ _ => rfl) rfl ?_
                refine a_iload_3 rfl rfl ?_
                refine a_iald rfl rfl (Or.inl rfl) rfl (by omega) (by decide) ?_
                refine a_as (y := nI (v)) e39 ?_
                refine a_iconst (v := (nI 4)) rfl rfl rfl ?_
                refine a_ishr rfl rfl ?_
                refine a_as (y := nI (v / 16)) (pk_shrN (by omega) _ 4 (by decide)) ?_
                refine a_aload_0 rfl rfl ?_
                refine a_geti rfl rfl rfl (fun _ _ _ => rfl) ?_
                refine a_as (y := nI (R)) x5 ?_
                refine a_cmpN_eq rfl rfl rfl (by omega) (by omega) (fun c_83 => False.elim (by omega)) (fun _ => ?_)
                refine a_aload_0 rfl rfl ?_
                refine a_getr rfl rfl rfl (fun _ _ _ => rfl) rfl ?_
                refine a_aload_0 rfl rfl ?_
                refine a_geti rfl rfl rfl (fun _ _ _ => rfl) ?_
                refine a_as (y := nI (ho)) x3 ?_
                refine a_aload_0 rfl rfl ?_
                refine a_geti rfl rfl rfl (fun _ _ _ => rfl) ?_
                refine a_as (y := nI sz) x4 ?_
                refine a_virt0 rfl rfl (e_setTime_33 ho (nI sz) x8) (Nat.le_of_ble_eq_true rfl) ⟨rfl, rfl, rfl, rfl⟩ rfl rfl rfl (Nat.le_of_ble_eq_true rfl) rfl rfl ?_
                refine a_aload_0 rfl rfl ?_
                refine a_getr rfl rfl rfl (fun _ _ _ => rfl) rfl ?_
                refine a_getr rfl rfl rfl (fun _ _ _ => rfl) rfl ?_
                refine a_iconst (v := (nI 3)) rfl rfl rfl ?_
                refine a_iload_2 rfl rfl ?_
                refine a_iast rfl rfl rfl rfl (by omega) (by decide) ?_
                refine a_aload_0 rfl rfl ?_
                refine a_getr rfl rfl rfl (fun _ _ _ => rfl) rfl ?_
                refine a_getr rfl rfl rfl (fun _ _ _ => rfl) rfl ?_
                refine a_iconst (v := (nI 4)) rfl rfl rfl ?_
                refine a_aload_0 rfl rfl ?_
                refine a_getr rfl rfl rfl (fun _ _ _ => rfl) rfl ?_
                refine a_getr rfl rfl rfl (fun _ _ _ => rfl) rfl ?_
                refine a_iload_1 rfl rfl ?_
                refine a_iald rfl rfl (Or.inl rfl) rfl (by omega) (by decide) ?_
                refine a_iast rfl rfl rfl rfl (by omega) (by decide) ?_
                refine a_aload_0 rfl rfl ?_
                refine a_getr rfl rfl rfl (fun _ _ _ => rfl) rfl ?_
                refine a_getr rfl rfl rfl (fun _ _ _ => rfl) rfl ?_
                refine a_iconst (v := (nI 5)) rfl rfl rfl ?_
                refine a_aload_0 rfl rfl ?_
                refine a_getr rfl rfl rfl (fun _ _ _ => rfl) rfl ?_
                refine a_getr rfl rfl rfl (fun _ _ _ => rfl) rfl ?_
                refine a_iload_1 rfl rfl ?_
                refine a_iald rfl rfl (Or.inl rfl) rfl (by omega) (by decide) ?_
                refine a_iast rfl rfl rfl rfl (by omega) (by decide) ?_
                refine a_aload_0 rfl rfl ?_
                refine a_getr rfl rfl rfl (fun _ _ _ => rfl) rfl ?_
                refine a_getr rfl rfl rfl (fun _ _ _ => rfl) rfl ?_
                refine a_bipush (v := (nI 6)) rfl rfl rfl ?_
                refine a_iload_1 rfl rfl ?_
                refine a_iast rfl rfl rfl rfl (by omega) (by decide) ?_
                refine a_aload_0 rfl rfl ?_
                refine a_getr rfl rfl rfl (fun _ _ _ => rfl) rfl ?_
                refine a_iload_3 rfl rfl ?_
                refine a_aload_0 rfl rfl ?_
                refine a_geti rfl rfl rfl (fun _ _ _ => rfl) ?_
                refine a_as (y := nI (R)) x5 ?_
                refine a_iconst (v := (nI 4)) rfl rfl rfl ?_
                refine a_ishl rfl rfl ?_
                refine a_as (y := nI (R * 16)) (pk_shlN _ 4 (by decide) (by omega)) ?_
                refine a_aload_0 rfl rfl ?_
                refine a_getr rfl rfl rfl (fun _ _ _ => rfl) rfl ?_
                refine a_aload_0 rfl rfl ?_
                refine a_getr rfl rfl rfl (fun _ _ _ => rfl) rfl ?_
                refine a_iconst (v := (nI 0)) rfl rfl rfl ?_
                refine a_null rfl rfl ?_
                refine a_virtI rfl rfl (K) (Nat.le_of_ble_eq_true rfl) ⟨rfl, rfl, rfl, rfl⟩ rfl rfl rfl (Nat.le_of_ble_eq_true rfl) rfl rfl ?_
                refine a_bipush (v := (nI 15)) rfl rfl rfl ?_
                refine a_statI rfl rfl (e_clipZ _ 15 fb (by omega)) (Nat.le_of_ble_eq_true rfl) ⟨rfl, rfl, rfl⟩ rfl rfl rfl (Nat.le_of_ble_eq_true rfl) rfl ?_
                refine a_ior rfl rfl ?_
                refine a_as (y := nI (R * 16 + clN (f (shE A ho sz s m)) 15)) (by rw [nI_or, show R * 16 = R * 2 ^ 4 from rfl, or_low (by omega)]) ?_
                refine a_iast rfl rfl rfl rfl (by omega) (by decide) ?_
                refine a_aload_0 rfl rfl ?_
                refine a_getr rfl rfl rfl (fun _ _ _ => rfl) rfl ?_
                refine a_iload_3 rfl rfl ?_
                refine a_iald rfl rfl (Or.inl rfl) rfl (by omega) (by decide) ?_
                refine a_as (y := nI (R * 16 + clN (f (shE A ho sz s m)) 15)) (va_up_self _ _ _) ?_
                refine a_bipush (v := (nI 15)) rfl rfl rfl ?_
                refine a_iand rfl rfl ?_
                refine a_as (y := nI (clN (f (shE A ho sz s m)) 15)) (by rw [pk_andN (by omega) 4 (by decide)]; exact congrArg nI (by omega)) ?_
                exact a_iret rfl rfl
              · intro k hk
                by_cases ek : k = s * 30 + m
                · subst ek
                  refine ⟨_, va_up_self _ _ _, by omega, fun _ => ?_⟩
                  rw [show (s * 30 + m) / 30 = s by omega, show (s * 30 + m) % 30 = m by omega]
                  show _ = clN (f (shE A ho sz s m)) 15
                  omega
                · obtain ⟨v', a1, a2, a3⟩ := hf k hk
                  refine ⟨v', ?_, a2, a3⟩
                  show va_up (h 39) (s * 30 + m) _ k = nI v'
                  rw [va_up_ne _ _ ek]
                  exact a1
  · refine ⟨h, ?_, CF_refl, hf⟩
    have e : ltC (fl 0) A ho sz mo c = 0 := by unfold ltC; rw [if_neg hc]
    rw [e]
    show avA _ 106 0 [.ref 8, .int (c), mvU, mvU] [] _ _
    refine a_aload_0 rfl rfl ?_
    refine a_geti rfl rfl rfl (fun _ _ _ => rfl) ?_
    refine a_iconst (v := (-1)) rfl rfl rfl ?_
    refine a_cmp_eq rfl rfl rfl (fun c_5 => ?_) (fun c_5 => ?_)
    · refine a_iconst (v := (nI 0)) rfl rfl rfl ?_
      exact a_iret rfl rfl
    · refine a_iload_1 rfl rfl ?_
      refine a_statI rfl rfl (e_isCell _) (Nat.le_of_ble_eq_true rfl) ⟨rfl, rfl, rfl⟩ rfl rfl rfl (Nat.le_of_ble_eq_true rfl) rfl ?_
      refine a_ifb_ne rfl rfl rfl (fun c_12 => by first | exact absurd c_12 hc | exact absurd hc c_12) (fun _ => ?_)
      refine a_iconst (v := (nI 0)) rfl rfl rfl ?_
      exact a_iret rfl rfl
end LI
