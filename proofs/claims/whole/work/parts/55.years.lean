/-! YEARS OF DRAWS; WHAT IS FORETOLD -/
def ypA (TX : Nat → Txt) (A : Nat → Int32) (x : Nat) : Nat → Int32 := if x % 5 = 0 then (if lgP A (nI (x % 30)) then va_up A 9 (nI (x % 30)) else A) else if x % 5 = 1 then (if 0 < gN A 0 ∧ ldP A (nI (x % gN A 0)) (nI (x / 5 % 30)) then va_up A (13 + 5 * (x % gN A 0)) (nI (x / 5 % 30)) else A) else if x % 5 = 2 then (if x % 4 = 0 then va_up A 9 (-1) else A) else (if gN A 8 = 9999 then A else (psA true (flA TX A) A).1)
def yrS (TX : Nat → Txt) : Nat → (Nat → Int32) → Nat → Int32
  | 0, A => A
  | n + 1, A => yrS TX n (ypA TX (drA A) (gN A 11))
theorem mEq_dr {A : Nat → Int32} : mEq A (drA A) := mEq_up (by omega)
theorem ypA_ok {TX : Nat → Txt} {A : Nat → Int32} {x : Nat} (H : okA A) (k : KL A) (hx : x < 30559) : mEq A (ypA TX A x) ∧ rOK (ypA TX A x) := by
  have h5 := gN_le (m := 5) H.1 (i := 0) (by omega) (by decide)
  have l8 := gN_le (m := 9999) H.1 (i := 8) (by omega) (by decide)
  unfold ypA
  split
  · split
    · exact ⟨mEq_up (by omega), rOK_up H.1 (by show (-1 : Int) ≤ _ ∧ _ ≤ (29 : Int); rw [nI_toInt (by omega)]; omega)⟩
    · exact ⟨mEq_refl, H.1⟩
  · split
    · split
      · rename_i q
        have : x % gN A 0 < gN A 0 := Nat.mod_lt _ q.1
        exact ⟨mEq_up (Or.inr (Or.inl ⟨x % gN A 0, by omega, rfl⟩)), rOK_up H.1 (inB_nI (m := 29) (bd_at (by omega)) (by omega) (by omega))⟩
      · exact ⟨mEq_refl, H.1⟩
    · split
      · split
        · exact ⟨mEq_up (by omega), rOK_up H.1 ⟨by decide, by decide⟩⟩
        · exact ⟨mEq_refl, H.1⟩
      · split
        · exact ⟨mEq_refl, H.1⟩
        · exact ⟨mEq_ps H.1, psA_OK H.1 (by omega)⟩
theorem yr1_ok {TX : Nat → Txt} {A : Nat → Int32} (H : okA A) (k : KL A) : okA (drA A) ∧ KL (drA A) ∧ okA (ypA TX (drA A) (gN A 11)) ∧ KL (ypA TX (drA A) (gN A 11)) ∧ gN (ypA TX (drA A) (gN A 11)) 1 = gN A 1 := by
  have x11 := gN_le (m := 30558) H.1 (i := 11) (by omega) (by decide)
  obtain ⟨o1, k1⟩ := mEq_ok H k mEq_dr (drA_OK H.1)
  obtain ⟨e2, r2⟩ := ypA_ok (TX := TX) (x := gN A 11) o1 k1 (by omega)
  obtain ⟨o2, k2⟩ := mEq_ok o1 k1 e2 r2
  exact ⟨o1, k1, o2, k2, (gN_c (e2.1 1 (by omega))).trans (gN_c (mEq_dr.1 1 (by omega)))⟩
theorem yrS_ok {TX : Nat → Txt} (n : Nat) : ∀ A : Nat → Int32, okA A → KL A → okA (yrS TX n A) ∧ gN (yrS TX n A) 1 = gN A 1 := by
  induction n with
  | zero => intro A H k; exact ⟨H, rfl⟩
  | succ n ih =>
    intro A H k
    obtain ⟨_, _, o2, k2, g2⟩ := yr1_ok (TX := TX) H k
    obtain ⟨p1, p2⟩ := ih _ o2 k2
    exact ⟨p1, p2.trans g2⟩
section YE
variable {L t : Nat} {lt rt rp : Option Nat} {sw : Bool} {h : Nat → Nat → Int32} {gl : Nat → Nat → Int64} {A B : Nat → Int32} {TX : Nat → Txt} {R : Nat}
theorem CI_moon (H : CI A B TX R t lt h) (k : KL A) (v : Int32) (hv : inB 9 v) : CF [14] h (mvPut h 14 0 v) ∧ CI (va_up A 9 v) B TX R t lt (mvPut h 14 0 v) := by
  have c2 : CF [14] h (mvPut h 14 0 v) := CF_put CF_refl rfl
  have e : mEq A (va_up A 9 v) := mEq_up (by omega)
  exact ⟨c2, CI_mom H k e (rOK_up H.1.1 hv) c2 rfl rfl rfl (MR_moon H.2.2.2.1.2.1) (BK_A H.2.2.2.1.2.2.1 rfl rfl rfl (va_up_ne _ _ (by omega)) (same_up (by omega))) (LI_cf (LI_same (mEq_same e) (va_up_ne _ _ (by omega)) H.2.2.2.2.2.2) rfl c2)⟩
theorem C_year (H : CI A B TX R t lt h) (k : KL A) (hR : R + 1 < 67108864) (x : Nat) (hx : x < 30559) : ∃ h' lt' R', avE 6 116 [.ref 7, .int (nI x)] (sX L t lt rt rp sw h gl) (none, sX L t lt' rt rp sw h' gl) ∧ CF clS h h' ∧ CI (ypA TX A x) B TX R' t lt' h' ∧ R ≤ R' ∧ R' ≤ R + 1 := by
  obtain ⟨e4, h5⟩ := CI_e4 H
  obtain ⟨e8, l8⟩ := CI_14 H
  unfold ypA
  by_cases c0 : x % 5 = 0
  · rw [if_pos c0]
    by_cases hc : lgP A (nI (x % 30))
    · rw [if_pos hc]
      obtain ⟨c2, H2⟩ := CI_moon H k (nI (x % 30)) (by show (-1 : Int) ≤ _ ∧ _ ≤ (29 : Int); rw [nI_toInt (by omega)]; omega)
      refine ⟨_, lt, R, ?_, CF_cl rfl c2, H2, by omega, by omega⟩
      show avA _ 116 0 [.ref 7, .int (nI (x)), mvU, mvU] [] _ _
      refine a_aload_0 rfl rfl ?_
      refine a_getr rfl rfl rfl (fun _ _ _ => rfl) rfl ?_
      refine a_getr rfl rfl rfl (fun _ _ _ => rfl) rfl ?_
      refine a_astore_2 rfl rfl rfl ?_
      refine a_iload_1 rfl rfl ?_
      refine a_iconst (v := (nI 5)) rfl rfl rfl ?_
      refine a_iremN rfl rfl (by omega) (by omega) (by omega) ?_
      refine a_as (y := nI (0)) (congrArg nI c0) ?_
      refine a_tabIn rfl (by decide) rfl rfl ?_
      refine a_aload_0 rfl rfl ?_
      refine a_iload_1 rfl rfl ?_
      refine a_bipush (v := (nI 30)) rfl rfl rfl ?_
      refine a_iremN rfl rfl (by omega) (by omega) (by omega) ?_
      refine a_virtI rfl rfl (e_canLodge H (nI (x % 30))) (Nat.le_of_ble_eq_true rfl) ⟨rfl, rfl, rfl, rfl⟩ rfl rfl rfl (Nat.le_of_ble_eq_true rfl) rfl rfl ?_
      refine a_ifb_eq rfl rfl rfl (fun c_44 => by first | exact absurd c_44 (not_not_intro hc) | exact absurd (not_not_intro hc) c_44) (fun _ => ?_)
      refine a_aload_2 rfl rfl ?_
      refine a_iload_1 rfl rfl ?_
      refine a_bipush (v := (nI 30)) rfl rfl rfl ?_
      refine a_iremN rfl rfl (by omega) (by omega) (by omega) ?_
      refine a_puti rfl rfl rfl rfl ?_
      refine a_goto rfl rfl ?_
      exact a_vret rfl rfl
    · rw [if_neg hc]
      refine ⟨h, lt, R, ?_, CF_refl, H, by omega, by omega⟩
      show avA _ 116 0 [.ref 7, .int (nI (x)), mvU, mvU] [] _ _
      refine a_aload_0 rfl rfl ?_
      refine a_getr rfl rfl rfl (fun _ _ _ => rfl) rfl ?_
      refine a_getr rfl rfl rfl (fun _ _ _ => rfl) rfl ?_
      refine a_astore_2 rfl rfl rfl ?_
      refine a_iload_1 rfl rfl ?_
      refine a_iconst (v := (nI 5)) rfl rfl rfl ?_
      refine a_iremN rfl rfl (by omega) (by omega) (by omega) ?_
      refine a_as (y := nI (0)) (congrArg nI c0) ?_
      refine a_tabIn rfl (by decide) rfl rfl ?_
      refine a_aload_0 rfl rfl ?_
      refine a_iload_1 rfl rfl ?_
      refine a_bipush (v := (nI 30)) rfl rfl rfl ?_
      refine a_iremN rfl rfl (by omega) (by omega) (by omega) ?_
      refine a_virtI rfl rfl (e_canLodge H (nI (x % 30))) (Nat.le_of_ble_eq_true rfl) ⟨rfl, rfl, rfl, rfl⟩ rfl rfl rfl (Nat.le_of_ble_eq_true rfl) rfl rfl ?_
      refine a_ifb_eq rfl rfl rfl (fun _ => ?_) (fun c_44 => by first | exact absurd hc c_44 | exact absurd c_44 hc)
      exact a_vret rfl rfl
  · rw [if_neg c0]
    by_cases c1 : x % 5 = 1
    · rw [if_pos c1]
      by_cases hn : 0 < gN A 0
      · have hm : x % gN A 0 < gN A 0 := Nat.mod_lt _ hn
        obtain ⟨F, G, Cc, P⟩ := e_canLead (L := L) (rt := rt) (rp := rp) (sw := sw) (gl := gl) H (nI (x % gN A 0)) (nI (x / 5 % 30))
        have H1 := CI_path H P
        by_cases hc : ldP A (nI (x % gN A 0)) (nI (x / 5 % 30))
        · rw [if_pos ⟨hn, hc⟩]
          have c2 : CF [15] (va_up (va_up h 9 F) 10 G) (mvPut (va_up (va_up h 9 F) 10 G) 15 (x % gN A 0) (nI (x / 5 % 30))) := CF_put CF_refl rfl
          have e : mEq A (va_up A (13 + 5 * (x % gN A 0)) (nI (x / 5 % 30))) := mEq_up (Or.inr (Or.inl ⟨x % gN A 0, by omega, rfl⟩))
          have r1 : rOK (va_up A (13 + 5 * (x % gN A 0)) (nI (x / 5 % 30))) := rOK_up H.1.1 (inB_nI (m := 29) (bd_at (by omega)) (by omega) (by omega))
          refine ⟨_, lt, R, ?_, CF_trans (CF_cl rfl CF_path) (CF_cl rfl c2), CI_mom H1 k e r1 c2 rfl rfl rfl (MR_at H1.2.2.2.1.2.1) (BK_A H1.2.2.2.1.2.2.1 rfl rfl rfl (va_up_ne _ _ (by omega)) (same_up (by omega))) (LI_cf (LI_same (mEq_same e) (va_up_ne _ _ (by omega)) H1.2.2.2.2.2.2) rfl c2), by omega, by omega⟩
          show avA _ 116 0 [.ref 7, .int (nI (x)), mvU, mvU] [] _ _
          refine a_aload_0 rfl rfl ?_
          refine a_getr rfl rfl rfl (fun _ _ _ => rfl) rfl ?_
          refine a_getr rfl rfl rfl (fun _ _ _ => rfl) rfl ?_
          refine a_astore_2 rfl rfl rfl ?_
          refine a_iload_1 rfl rfl ?_
          refine a_iconst (v := (nI 5)) rfl rfl rfl ?_
          refine a_iremN rfl rfl (by omega) (by omega) (by omega) ?_
          refine a_as (y := nI (1)) (congrArg nI c1) ?_
          refine a_tabIn rfl (by decide) rfl rfl ?_
          refine a_aload_2 rfl rfl ?_
          refine a_geti rfl rfl rfl (fun _ _ _ => rfl) ?_
          refine a_as (y := nI (gN A 0)) e4 ?_
          refine a_ifN_le rfl rfl rfl (by omega) (fun c_62 => False.elim (by omega)) (fun _ => ?_)
          refine a_iload_1 rfl rfl ?_
          refine a_aload_2 rfl rfl ?_
          refine a_geti rfl rfl rfl (fun _ _ _ => rfl) ?_
          refine a_as (y := nI (gN A 0)) e4 ?_
          refine a_iremN rfl rfl (by omega) (by omega) (by omega) ?_
          refine a_goto rfl rfl ?_
          refine a_istore_3 rfl rfl rfl ?_
          refine a_aload_0 rfl rfl ?_
          refine a_iload_3 rfl rfl ?_
          refine a_iload_1 rfl rfl ?_
          refine a_iconst (v := (nI 5)) rfl rfl rfl ?_
          refine a_idivN rfl rfl (by omega) (by omega) (by omega) ?_
          refine a_bipush (v := (nI 30)) rfl rfl rfl ?_
          refine a_iremN rfl rfl (by omega) (by omega) (by omega) ?_
          refine a_virtI rfl rfl (Cc) (Nat.le_of_ble_eq_true rfl) ⟨rfl, rfl, rfl, rfl⟩ rfl rfl rfl (Nat.le_of_ble_eq_true rfl) rfl rfl ?_
          refine a_ifb_eq rfl rfl rfl (fun c_87 => by first | exact absurd c_87 (not_not_intro hc) | exact absurd (not_not_intro hc) c_87) (fun _ => ?_)
          refine a_aload_2 rfl rfl ?_
          refine a_getr rfl rfl rfl (fun _ _ _ => rfl) rfl ?_
          refine a_iload_3 rfl rfl ?_
          refine a_iload_1 rfl rfl ?_
          refine a_iconst (v := (nI 5)) rfl rfl rfl ?_
          refine a_idivN rfl rfl (by omega) (by omega) (by omega) ?_
          refine a_bipush (v := (nI 30)) rfl rfl rfl ?_
          refine a_iremN rfl rfl (by omega) (by omega) (by omega) ?_
          refine a_iast rfl rfl rfl rfl (by omega) (by decide) ?_
          refine a_goto rfl rfl ?_
          exact a_vret rfl rfl
        · rw [if_neg (fun q => hc q.2)]
          refine ⟨_, lt, R, ?_, CF_cl rfl CF_path, H1, by omega, by omega⟩
          show avA _ 116 0 [.ref 7, .int (nI (x)), mvU, mvU] [] _ _
          refine a_aload_0 rfl rfl ?_
          refine a_getr rfl rfl rfl (fun _ _ _ => rfl) rfl ?_
          refine a_getr rfl rfl rfl (fun _ _ _ => rfl) rfl ?_
          refine a_astore_2 rfl rfl rfl ?_
          refine a_iload_1 rfl rfl ?_
          refine a_iconst (v := (nI 5)) rfl rfl rfl ?_
          refine a_iremN rfl rfl (by omega) (by omega) (by omega) ?_
          refine a_as (y := nI (1)) (congrArg nI c1) ?_
          refine a_tabIn rfl (by decide) rfl rfl ?_
          refine a_aload_2 rfl rfl ?_
          refine a_geti rfl rfl rfl (fun _ _ _ => rfl) ?_
          refine a_as (y := nI (gN A 0)) e4 ?_
          refine a_ifN_le rfl rfl rfl (by omega) (fun c_62 => False.elim (by omega)) (fun _ => ?_)
          refine a_iload_1 rfl rfl ?_
          refine a_aload_2 rfl rfl ?_
          refine a_geti rfl rfl rfl (fun _ _ _ => rfl) ?_
          refine a_as (y := nI (gN A 0)) e4 ?_
          refine a_iremN rfl rfl (by omega) (by omega) (by omega) ?_
          refine a_goto rfl rfl ?_
          refine a_istore_3 rfl rfl rfl ?_
          refine a_aload_0 rfl rfl ?_
          refine a_iload_3 rfl rfl ?_
          refine a_iload_1 rfl rfl ?_
          refine a_iconst (v := (nI 5)) rfl rfl rfl ?_
          refine a_idivN rfl rfl (by omega) (by omega) (by omega) ?_
          refine a_bipush (v := (nI 30)) rfl rfl rfl ?_
          refine a_iremN rfl rfl (by omega) (by omega) (by omega) ?_
          refine a_virtI rfl rfl (Cc) (Nat.le_of_ble_eq_true rfl) ⟨rfl, rfl, rfl, rfl⟩ rfl rfl rfl (Nat.le_of_ble_eq_true rfl) rfl rfl ?_
          refine a_ifb_eq rfl rfl rfl (fun _ => ?_) (fun c_87 => by first | exact absurd hc c_87 | exact absurd c_87 hc)
          exact a_vret rfl rfl
      · rw [if_neg (fun q => hn q.1)]
        obtain ⟨F, G, Cc, P⟩ := e_canLead (L := L) (rt := rt) (rp := rp) (sw := sw) (gl := gl) H (-1) (nI (x / 5 % 30))
        refine ⟨_, lt, R, ?_, CF_cl rfl CF_path, CI_path H P, by omega, by omega⟩
        show avA _ 116 0 [.ref 7, .int (nI (x)), mvU, mvU] [] _ _
        refine a_aload_0 rfl rfl ?_
        refine a_getr rfl rfl rfl (fun _ _ _ => rfl) rfl ?_
        refine a_getr rfl rfl rfl (fun _ _ _ => rfl) rfl ?_
        refine a_astore_2 rfl rfl rfl ?_
        refine a_iload_1 rfl rfl ?_
        refine a_iconst (v := (nI 5)) rfl rfl rfl ?_
        refine a_iremN rfl rfl (by omega) (by omega) (by omega) ?_
        refine a_as (y := nI (1)) (congrArg nI c1) ?_
        refine a_tabIn rfl (by decide) rfl rfl ?_
        refine a_aload_2 rfl rfl ?_
        refine a_geti rfl rfl rfl (fun _ _ _ => rfl) ?_
        refine a_as (y := nI (gN A 0)) e4 ?_
        refine a_ifN_le rfl rfl rfl (by omega) (fun _ => ?_) (fun c_62 => False.elim (by omega))
        refine a_iconst (v := (-1)) rfl rfl rfl ?_
        refine a_istore_3 rfl rfl rfl ?_
        refine a_aload_0 rfl rfl ?_
        refine a_iload_3 rfl rfl ?_
        refine a_iload_1 rfl rfl ?_
        refine a_iconst (v := (nI 5)) rfl rfl rfl ?_
        refine a_idivN rfl rfl (by omega) (by omega) (by omega) ?_
        refine a_bipush (v := (nI 30)) rfl rfl rfl ?_
        refine a_iremN rfl rfl (by omega) (by omega) (by omega) ?_
        refine a_virtI rfl rfl (Cc) (Nat.le_of_ble_eq_true rfl) ⟨rfl, rfl, rfl, rfl⟩ rfl rfl rfl (Nat.le_of_ble_eq_true rfl) rfl rfl ?_
        refine a_ifb_eq rfl rfl rfl (fun _ => ?_) (fun c_87 => by first | exact absurd (fun q => absurd q.1.1 (by decide)) c_87 | exact absurd c_87 (fun q => absurd q.1.1 (by decide)))
        exact a_vret rfl rfl
    · rw [if_neg c1]
      by_cases c2 : x % 5 = 2
      · rw [if_pos c2]
        by_cases c4 : x % 4 = 0
        · rw [if_pos c4]
          obtain ⟨c3, H2⟩ := CI_moon H k (-1) ⟨by decide, by decide⟩
          refine ⟨_, lt, R, ?_, CF_cl rfl c3, H2, by omega, by omega⟩
          show avA _ 116 0 [.ref 7, .int (nI (x)), mvU, mvU] [] _ _
          refine a_aload_0 rfl rfl ?_
          refine a_getr rfl rfl rfl (fun _ _ _ => rfl) rfl ?_
          refine a_getr rfl rfl rfl (fun _ _ _ => rfl) rfl ?_
          refine a_astore_2 rfl rfl rfl ?_
          refine a_iload_1 rfl rfl ?_
          refine a_iconst (v := (nI 5)) rfl rfl rfl ?_
          refine a_iremN rfl rfl (by omega) (by omega) (by omega) ?_
          refine a_as (y := nI (2)) (congrArg nI c2) ?_
          refine a_tabIn rfl (by decide) rfl rfl ?_
          refine a_iload_1 rfl rfl ?_
          refine a_iconst (v := (nI 4)) rfl rfl rfl ?_
          refine a_iremN rfl rfl (by omega) (by omega) (by omega) ?_
          refine a_ifN_ne rfl rfl rfl (by omega) (fun c_108 => False.elim (by omega)) (fun _ => ?_)
          refine a_aload_2 rfl rfl ?_
          refine a_iconst (v := (-1)) rfl rfl rfl ?_
          refine a_puti rfl rfl rfl rfl ?_
          refine a_goto rfl rfl ?_
          exact a_vret rfl rfl
        · rw [if_neg c4]
          refine ⟨h, lt, R, ?_, CF_refl, H, by omega, by omega⟩
          show avA _ 116 0 [.ref 7, .int (nI (x)), mvU, mvU] [] _ _
          refine a_aload_0 rfl rfl ?_
          refine a_getr rfl rfl rfl (fun _ _ _ => rfl) rfl ?_
          refine a_getr rfl rfl rfl (fun _ _ _ => rfl) rfl ?_
          refine a_astore_2 rfl rfl rfl ?_
          refine a_iload_1 rfl rfl ?_
          refine a_iconst (v := (nI 5)) rfl rfl rfl ?_
          refine a_iremN rfl rfl (by omega) (by omega) (by omega) ?_
          refine a_as (y := nI (2)) (congrArg nI c2) ?_
          refine a_tabIn rfl (by decide) rfl rfl ?_
          refine a_iload_1 rfl rfl ?_
          refine a_iconst (v := (nI 4)) rfl rfl rfl ?_
          refine a_iremN rfl rfl (by omega) (by omega) (by omega) ?_
          refine a_ifN_ne rfl rfl rfl (by omega) (fun _ => ?_) (fun c_108 => False.elim (by omega))
          exact a_vret rfl rfl
      · rw [if_neg c2]
        have Cr := e_ruling (L := L) (rt := rt) (rp := rp) (sw := sw) (gl := gl) H
        have h34 : x % 5 = 3 ∨ x % 5 = 4 := by omega
        by_cases q : gN A 8 = 9999
        · rw [if_pos q]
          have C2 := e_passHour_no_14 (L := L) (t := t) (lt := lt) (rt := rt) (rp := rp) (sw := sw) (h := h) (gl := gl) (rlO A) (by rw [e8, q])
          refine ⟨h, lt, R, ?_, CF_refl, H, by omega, by omega⟩
          cases hro : rlO A with
          | none =>
            rw [hro] at Cr C2
            rcases h34 with c3 | c3
            · show avA _ 116 0 [.ref 7, .int (nI (x)), mvU, mvU] [] _ _
              refine a_aload_0 rfl rfl ?_
              refine a_getr rfl rfl rfl (fun _ _ _ => rfl) rfl ?_
              refine a_getr rfl rfl rfl (fun _ _ _ => rfl) rfl ?_
              refine a_astore_2 rfl rfl rfl ?_
              refine a_iload_1 rfl rfl ?_
              refine a_iconst (v := (nI 5)) rfl rfl rfl ?_
              refine a_iremN rfl rfl (by omega) (by omega) (by omega) ?_
              refine a_as (y := nI (3)) (congrArg nI c3) ?_
              refine a_tabOut rfl (by decide) rfl ?_
              refine a_aload_0 rfl rfl ?_
              refine a_getr rfl rfl rfl (fun _ _ _ => rfl) rfl ?_
              refine a_aload_0 rfl rfl ?_
              refine a_virtN rfl rfl (Cr) (Nat.le_of_ble_eq_true rfl) ⟨rfl, rfl, rfl, rfl⟩ rfl rfl rfl (Nat.le_of_ble_eq_true rfl) rfl rfl ?_
              refine a_aload_2 rfl rfl ?_
              refine a_virtI rfl rfl (C2) (Nat.le_of_ble_eq_true rfl) ⟨rfl, rfl, rfl, rfl⟩ rfl rfl rfl (Nat.le_of_ble_eq_true rfl) rfl rfl ?_
              refine a_pop rfl rfl rfl ?_
              exact a_vret rfl rfl
            · show avA _ 116 0 [.ref 7, .int (nI (x)), mvU, mvU] [] _ _
              refine a_aload_0 rfl rfl ?_
              refine a_getr rfl rfl rfl (fun _ _ _ => rfl) rfl ?_
              refine a_getr rfl rfl rfl (fun _ _ _ => rfl) rfl ?_
              refine a_astore_2 rfl rfl rfl ?_
              refine a_iload_1 rfl rfl ?_
              refine a_iconst (v := (nI 5)) rfl rfl rfl ?_
              refine a_iremN rfl rfl (by omega) (by omega) (by omega) ?_
              refine a_as (y := nI (4)) (congrArg nI c3) ?_
              refine a_tabOut rfl (by decide) rfl ?_
              refine a_aload_0 rfl rfl ?_
              refine a_getr rfl rfl rfl (fun _ _ _ => rfl) rfl ?_
              refine a_aload_0 rfl rfl ?_
              refine a_virtN rfl rfl (Cr) (Nat.le_of_ble_eq_true rfl) ⟨rfl, rfl, rfl, rfl⟩ rfl rfl rfl (Nat.le_of_ble_eq_true rfl) rfl rfl ?_
              refine a_aload_2 rfl rfl ?_
              refine a_virtI rfl rfl (C2) (Nat.le_of_ble_eq_true rfl) ⟨rfl, rfl, rfl, rfl⟩ rfl rfl rfl (Nat.le_of_ble_eq_true rfl) rfl rfl ?_
              refine a_pop rfl rfl rfl ?_
              exact a_vret rfl rfl
          | some o =>
            rw [hro] at Cr C2
            rcases h34 with c3 | c3
            · show avA _ 116 0 [.ref 7, .int (nI (x)), mvU, mvU] [] _ _
              refine a_aload_0 rfl rfl ?_
              refine a_getr rfl rfl rfl (fun _ _ _ => rfl) rfl ?_
              refine a_getr rfl rfl rfl (fun _ _ _ => rfl) rfl ?_
              refine a_astore_2 rfl rfl rfl ?_
              refine a_iload_1 rfl rfl ?_
              refine a_iconst (v := (nI 5)) rfl rfl rfl ?_
              refine a_iremN rfl rfl (by omega) (by omega) (by omega) ?_
              refine a_as (y := nI (3)) (congrArg nI c3) ?_
              refine a_tabOut rfl (by decide) rfl ?_
              refine a_aload_0 rfl rfl ?_
              refine a_getr rfl rfl rfl (fun _ _ _ => rfl) rfl ?_
              refine a_aload_0 rfl rfl ?_
              refine a_virtR rfl rfl (Cr) (Nat.le_of_ble_eq_true rfl) ⟨rfl, rfl, rfl, rfl⟩ rfl rfl rfl (Nat.le_of_ble_eq_true rfl) rfl rfl ?_
              refine a_aload_2 rfl rfl ?_
              refine a_virtI rfl rfl (C2) (Nat.le_of_ble_eq_true rfl) ⟨rfl, rfl, rfl, rfl⟩ rfl rfl rfl (Nat.le_of_ble_eq_true rfl) rfl rfl ?_
              refine a_pop rfl rfl rfl ?_
              exact a_vret rfl rfl
            · show avA _ 116 0 [.ref 7, .int (nI (x)), mvU, mvU] [] _ _
              refine a_aload_0 rfl rfl ?_
              refine a_getr rfl rfl rfl (fun _ _ _ => rfl) rfl ?_
              refine a_getr rfl rfl rfl (fun _ _ _ => rfl) rfl ?_
              refine a_astore_2 rfl rfl rfl ?_
              refine a_iload_1 rfl rfl ?_
              refine a_iconst (v := (nI 5)) rfl rfl rfl ?_
              refine a_iremN rfl rfl (by omega) (by omega) (by omega) ?_
              refine a_as (y := nI (4)) (congrArg nI c3) ?_
              refine a_tabOut rfl (by decide) rfl ?_
              refine a_aload_0 rfl rfl ?_
              refine a_getr rfl rfl rfl (fun _ _ _ => rfl) rfl ?_
              refine a_aload_0 rfl rfl ?_
              refine a_virtR rfl rfl (Cr) (Nat.le_of_ble_eq_true rfl) ⟨rfl, rfl, rfl, rfl⟩ rfl rfl rfl (Nat.le_of_ble_eq_true rfl) rfl rfl ?_
              refine a_aload_2 rfl rfl ?_
              refine a_virtI rfl rfl (C2) (Nat.le_of_ble_eq_true rfl) ⟨rfl, rfl, rfl, rfl⟩ rfl rfl rfl (Nat.le_of_ble_eq_true rfl) rfl rfl ?_
              refine a_pop rfl rfl rfl ?_
              exact a_vret rfl rfl
        · rw [if_neg q]
          obtain ⟨h2, R2, C2, cc, H2, r1, r2⟩ := C_pass (L := L) (rt := rt) (rp := rp) (sw := sw) (gl := gl) H k (by omega) hR
          refine ⟨h2, rlO A, R2, ?_, cc, H2, r1, r2⟩
          cases hro : rlO A with
          | none =>
            rw [hro] at Cr C2
            rcases h34 with c3 | c3
            · show avA _ 116 0 [.ref 7, .int (nI (x)), mvU, mvU] [] _ _
              refine a_aload_0 rfl rfl ?_
              refine a_getr rfl rfl rfl (fun _ _ _ => rfl) rfl ?_
              refine a_getr rfl rfl rfl (fun _ _ _ => rfl) rfl ?_
              refine a_astore_2 rfl rfl rfl ?_
              refine a_iload_1 rfl rfl ?_
              refine a_iconst (v := (nI 5)) rfl rfl rfl ?_
              refine a_iremN rfl rfl (by omega) (by omega) (by omega) ?_
              refine a_as (y := nI (3)) (congrArg nI c3) ?_
              refine a_tabOut rfl (by decide) rfl ?_
              refine a_aload_0 rfl rfl ?_
              refine a_getr rfl rfl rfl (fun _ _ _ => rfl) rfl ?_
              refine a_aload_0 rfl rfl ?_
              refine a_virtN rfl rfl (Cr) (Nat.le_of_ble_eq_true rfl) ⟨rfl, rfl, rfl, rfl⟩ rfl rfl rfl (Nat.le_of_ble_eq_true rfl) rfl rfl ?_
              refine a_aload_2 rfl rfl ?_
              refine a_virtI rfl rfl (C2) (Nat.le_of_ble_eq_true rfl) ⟨rfl, rfl, rfl, rfl⟩ rfl rfl rfl (Nat.le_of_ble_eq_true rfl) rfl rfl ?_
              refine a_pop rfl rfl rfl ?_
              exact a_vret rfl rfl
            · show avA _ 116 0 [.ref 7, .int (nI (x)), mvU, mvU] [] _ _
              refine a_aload_0 rfl rfl ?_
              refine a_getr rfl rfl rfl (fun _ _ _ => rfl) rfl ?_
              refine a_getr rfl rfl rfl (fun _ _ _ => rfl) rfl ?_
              refine a_astore_2 rfl rfl rfl ?_
              refine a_iload_1 rfl rfl ?_
              refine a_iconst (v := (nI 5)) rfl rfl rfl ?_
              refine a_iremN rfl rfl (by omega) (by omega) (by omega) ?_
              refine a_as (y := nI (4)) (congrArg nI c3) ?_
              refine a_tabOut rfl (by decide) rfl ?_
              refine a_aload_0 rfl rfl ?_
              refine a_getr rfl rfl rfl (fun _ _ _ => rfl) rfl ?_
              refine a_aload_0 rfl rfl ?_
              refine a_virtN rfl rfl (Cr) (Nat.le_of_ble_eq_true rfl) ⟨rfl, rfl, rfl, rfl⟩ rfl rfl rfl (Nat.le_of_ble_eq_true rfl) rfl rfl ?_
              refine a_aload_2 rfl rfl ?_
              refine a_virtI rfl rfl (C2) (Nat.le_of_ble_eq_true rfl) ⟨rfl, rfl, rfl, rfl⟩ rfl rfl rfl (Nat.le_of_ble_eq_true rfl) rfl rfl ?_
              refine a_pop rfl rfl rfl ?_
              exact a_vret rfl rfl
          | some o =>
            rw [hro] at Cr C2
            rcases h34 with c3 | c3
            · show avA _ 116 0 [.ref 7, .int (nI (x)), mvU, mvU] [] _ _
              refine a_aload_0 rfl rfl ?_
              refine a_getr rfl rfl rfl (fun _ _ _ => rfl) rfl ?_
              refine a_getr rfl rfl rfl (fun _ _ _ => rfl) rfl ?_
              refine a_astore_2 rfl rfl rfl ?_
              refine a_iload_1 rfl rfl ?_
              refine a_iconst (v := (nI 5)) rfl rfl rfl ?_
              refine a_iremN rfl rfl (by omega) (by omega) (by omega) ?_
              refine a_as (y := nI (3)) (congrArg nI c3) ?_
              refine a_tabOut rfl (by decide) rfl ?_
              refine a_aload_0 rfl rfl ?_
              refine a_getr rfl rfl rfl (fun _ _ _ => rfl) rfl ?_
              refine a_aload_0 rfl rfl ?_
              refine a_virtR rfl rfl (Cr) (Nat.le_of_ble_eq_true rfl) ⟨rfl, rfl, rfl, rfl⟩ rfl rfl rfl (Nat.le_of_ble_eq_true rfl) rfl rfl ?_
              refine a_aload_2 rfl rfl ?_
              refine a_virtI rfl rfl (C2) (Nat.le_of_ble_eq_true rfl) ⟨rfl, rfl, rfl, rfl⟩ rfl rfl rfl (Nat.le_of_ble_eq_true rfl) rfl rfl ?_
              refine a_pop rfl rfl rfl ?_
              exact a_vret rfl rfl
            · show avA _ 116 0 [.ref 7, .int (nI (x)), mvU, mvU] [] _ _
              refine a_aload_0 rfl rfl ?_
              refine a_getr rfl rfl rfl (fun _ _ _ => rfl) rfl ?_
              refine a_getr rfl rfl rfl (fun _ _ _ => rfl) rfl ?_
              refine a_astore_2 rfl rfl rfl ?_
              refine a_iload_1 rfl rfl ?_
              refine a_iconst (v := (nI 5)) rfl rfl rfl ?_
              refine a_iremN rfl rfl (by omega) (by omega) (by omega) ?_
              refine a_as (y := nI (4)) (congrArg nI c3) ?_
              refine a_tabOut rfl (by decide) rfl ?_
              refine a_aload_0 rfl rfl ?_
              refine a_getr rfl rfl rfl (fun _ _ _ => rfl) rfl ?_
              refine a_aload_0 rfl rfl ?_
              refine a_virtR rfl rfl (Cr) (Nat.le_of_ble_eq_true rfl) ⟨rfl, rfl, rfl, rfl⟩ rfl rfl rfl (Nat.le_of_ble_eq_true rfl) rfl rfl ?_
              refine a_aload_2 rfl rfl ?_
              refine a_virtI rfl rfl (C2) (Nat.le_of_ble_eq_true rfl) ⟨rfl, rfl, rfl, rfl⟩ rfl rfl rfl (Nat.le_of_ble_eq_true rfl) rfl rfl ?_
              refine a_pop rfl rfl rfl ?_
              exact a_vret rfl rfl
theorem R_year (ok : okA A) (H : RI A B TX h) (x : Nat) (hx : x < 30559) : ∃ h' gl', avE 9 275 [.ref 81, .int (nI x)] (sX L t lt rt rp sw h gl) (none, sX L t lt rt rp sw h' gl') ∧ CF rfS h h' ∧ (∀ j, j ≠ 26 → h' 81 j = h 81 j) ∧ RI (ypA TX A x) B TX h' := by
  have h5 := gN_le (m := 5) ok.1 (i := 0) (by omega) (by decide)
  have l8 := gN_le (m := 9999) ok.1 (i := 8) (by omega) (by decide)
  have e0 : h 82 0 = nI (gN A 0) := by rw [H.1]; exact gN_eq ok.1 (by omega) (by decide)
  have e8 : h 82 8 = nI (gN A 8) := by rw [H.1]; exact gN_eq ok.1 (by omega) (by decide)
  unfold ypA
  by_cases c0 : x % 5 = 0
  · rw [if_pos c0]
    by_cases hc : lgP A (nI (x % 30))
    · rw [if_pos hc]
      refine ⟨va_up h 82 (va_up A 9 (nI (x % 30))), gl, ?_, CF_up CF_refl rfl, fun _ _ => rfl, RI_up H rfl rfl rfl rfl (va_up_ne _ _ (by omega))⟩
      show avA _ 275 0 [.ref 81, .int (nI (x))] [] _ _
      refine a_iload_1 rfl rfl ?_
      refine a_iconst (v := (nI 5)) rfl rfl rfl ?_
      refine a_iremN rfl rfl (by omega) (by omega) (by omega) ?_
      refine a_as (y := nI (0)) (congrArg nI c0) ?_
      refine a_tabIn rfl (by decide) rfl rfl ?_
      refine a_aload_0 rfl rfl ?_
      refine a_iload_1 rfl rfl ?_
      refine a_bipush (v := (nI 30)) rfl rfl rfl ?_
      refine a_iremN rfl rfl (by omega) (by omega) (by omega) ?_
      refine a_virtI rfl rfl (r_canLodge H (nI (x % 30))) (Nat.le_of_ble_eq_true rfl) ⟨rfl, rfl, rfl, rfl⟩ rfl rfl rfl (Nat.le_of_ble_eq_true rfl) rfl rfl ?_
      refine a_ifb_eq rfl rfl rfl (fun c_36 => by first | exact absurd c_36 (not_not_intro hc) | exact absurd (not_not_intro hc) c_36) (fun _ => ?_)
      refine a_aload_0 rfl rfl ?_
      refine a_getr rfl rfl rfl (fun _ _ _ => rfl) rfl ?_
      refine a_bipush (v := (nI 9)) rfl rfl rfl ?_
      refine a_iload_1 rfl rfl ?_
      refine a_bipush (v := (nI 30)) rfl rfl rfl ?_
      refine a_iremN rfl rfl (by omega) (by omega) (by omega) ?_
      refine a_iast rfl rfl rfl rfl (by omega) (by decide) ?_
      refine a_goto rfl rfl ?_
      refine av_to (a_vret rfl rfl) ?_
      unfold mvPut
      rw [H.1]
    · rw [if_neg hc]
      refine ⟨h, gl, ?_, CF_refl, fun _ _ => rfl, H⟩
      show avA _ 275 0 [.ref 81, .int (nI (x))] [] _ _
      refine a_iload_1 rfl rfl ?_
      refine a_iconst (v := (nI 5)) rfl rfl rfl ?_
      refine a_iremN rfl rfl (by omega) (by omega) (by omega) ?_
      refine a_as (y := nI (0)) (congrArg nI c0) ?_
      refine a_tabIn rfl (by decide) rfl rfl ?_
      refine a_aload_0 rfl rfl ?_
      refine a_iload_1 rfl rfl ?_
      refine a_bipush (v := (nI 30)) rfl rfl rfl ?_
      refine a_iremN rfl rfl (by omega) (by omega) (by omega) ?_
      refine a_virtI rfl rfl (r_canLodge H (nI (x % 30))) (Nat.le_of_ble_eq_true rfl) ⟨rfl, rfl, rfl, rfl⟩ rfl rfl rfl (Nat.le_of_ble_eq_true rfl) rfl rfl ?_
      refine a_ifb_eq rfl rfl rfl (fun _ => ?_) (fun c_36 => by first | exact absurd hc c_36 | exact absurd c_36 hc)
      exact a_vret rfl rfl
  · rw [if_neg c0]
    by_cases c1 : x % 5 = 1
    · rw [if_pos c1]
      by_cases hn : 0 < gN A 0
      · have hm : x % gN A 0 < gN A 0 := Nat.mod_lt _ hn
        obtain ⟨G, Cc⟩ := r_canLead (L := L) (t := t) (lt := lt) (rt := rt) (rp := rp) (sw := sw) (gl := gl) ok H (nI (x % gN A 0)) (nI (x / 5 % 30))
        have H1 : RI A B TX (va_up h 91 G) := RI_cf H (S := [91]) rfl (CF_up CF_refl rfl)
        by_cases hc : ldP A (nI (x % gN A 0)) (nI (x / 5 % 30))
        · rw [if_pos ⟨hn, hc⟩]
          refine ⟨va_up (va_up h 91 G) 82 (va_up A (13 + 5 * (x % gN A 0)) (nI (x / 5 % 30))), gl, ?_, CF_up (CF_up CF_refl rfl) rfl, fun _ _ => rfl, RI_up H1 rfl rfl rfl rfl (va_up_ne _ _ (by omega))⟩
          show avA _ 275 0 [.ref 81, .int (nI (x))] [] _ _
          refine a_iload_1 rfl rfl ?_
          refine a_iconst (v := (nI 5)) rfl rfl rfl ?_
          refine a_iremN rfl rfl (by omega) (by omega) (by omega) ?_
          refine a_as (y := nI (1)) (congrArg nI c1) ?_
          refine a_tabIn rfl (by decide) rfl rfl ?_
          refine a_aload_0 rfl rfl ?_
          refine a_getr rfl rfl rfl (fun _ _ _ => rfl) rfl ?_
          refine a_iconst (v := (nI 0)) rfl rfl rfl ?_
          refine a_iald rfl rfl (Or.inl rfl) rfl (by omega) (by decide) ?_
          refine a_as (y := nI (gN A 0)) e0 ?_
          refine a_ifN_le rfl rfl rfl (by omega) (fun c_59 => False.elim (by omega)) (fun _ => ?_)
          refine a_aload_0 rfl rfl ?_
          refine a_iload_1 rfl rfl ?_
          refine a_aload_0 rfl rfl ?_
          refine a_getr rfl rfl rfl (fun _ _ _ => rfl) rfl ?_
          refine a_iconst (v := (nI 0)) rfl rfl rfl ?_
          refine a_iald rfl rfl (Or.inl rfl) rfl (by omega) (by decide) ?_
          refine a_as (y := nI (gN A 0)) e0 ?_
          refine a_iremN rfl rfl (by omega) (by omega) (by omega) ?_
          refine a_iload_1 rfl rfl ?_
          refine a_iconst (v := (nI 5)) rfl rfl rfl ?_
          refine a_idivN rfl rfl (by omega) (by omega) (by omega) ?_
          refine a_bipush (v := (nI 30)) rfl rfl rfl ?_
          refine a_iremN rfl rfl (by omega) (by omega) (by omega) ?_
          refine a_virtI rfl rfl (Cc) (Nat.le_of_ble_eq_true rfl) ⟨rfl, rfl, rfl, rfl⟩ rfl rfl rfl (Nat.le_of_ble_eq_true rfl) rfl rfl ?_
          refine a_ifb_eq rfl rfl rfl (fun c_80 => by first | exact absurd c_80 (not_not_intro hc) | exact absurd (not_not_intro hc) c_80) (fun _ => ?_)
          refine a_aload_0 rfl rfl ?_
          refine a_iload_1 rfl rfl ?_
          refine a_aload_0 rfl rfl ?_
          refine a_getr rfl rfl rfl (fun _ _ _ => rfl) rfl ?_
          refine a_iconst (v := (nI 0)) rfl rfl rfl ?_
          refine a_iald rfl rfl (Or.inl rfl) rfl (by omega) (by decide) ?_
          refine a_as (y := nI (gN A 0)) e0 ?_
          refine a_iremN rfl rfl (by omega) (by omega) (by omega) ?_
          refine a_iconst (v := (nI 0)) rfl rfl rfl ?_
          refine a_iload_1 rfl rfl ?_
          refine a_iconst (v := (nI 5)) rfl rfl rfl ?_
          refine a_idivN rfl rfl (by omega) (by omega) (by omega) ?_
          refine a_bipush (v := (nI 30)) rfl rfl rfl ?_
          refine a_iremN rfl rfl (by omega) (by omega) (by omega) ?_
          refine a_virt0 rfl rfl (r_put (x % gN A 0) 0 _ (by omega) (by omega)) (Nat.le_of_ble_eq_true rfl) ⟨rfl, rfl, rfl, rfl⟩ rfl rfl rfl (Nat.le_of_ble_eq_true rfl) rfl rfl ?_
          refine a_goto rfl rfl ?_
          refine av_to (a_vret rfl rfl) ?_
          unfold mvPut
          rw [H1.1]
          rfl
        · rw [if_neg (fun q => hc q.2)]
          refine ⟨_, gl, ?_, CF_up CF_refl rfl, fun _ _ => rfl, H1⟩
          show avA _ 275 0 [.ref 81, .int (nI (x))] [] _ _
          refine a_iload_1 rfl rfl ?_
          refine a_iconst (v := (nI 5)) rfl rfl rfl ?_
          refine a_iremN rfl rfl (by omega) (by omega) (by omega) ?_
          refine a_as (y := nI (1)) (congrArg nI c1) ?_
          refine a_tabIn rfl (by decide) rfl rfl ?_
          refine a_aload_0 rfl rfl ?_
          refine a_getr rfl rfl rfl (fun _ _ _ => rfl) rfl ?_
          refine a_iconst (v := (nI 0)) rfl rfl rfl ?_
          refine a_iald rfl rfl (Or.inl rfl) rfl (by omega) (by decide) ?_
          refine a_as (y := nI (gN A 0)) e0 ?_
          refine a_ifN_le rfl rfl rfl (by omega) (fun c_59 => False.elim (by omega)) (fun _ => ?_)
          refine a_aload_0 rfl rfl ?_
          refine a_iload_1 rfl rfl ?_
          refine a_aload_0 rfl rfl ?_
          refine a_getr rfl rfl rfl (fun _ _ _ => rfl) rfl ?_
          refine a_iconst (v := (nI 0)) rfl rfl rfl ?_
          refine a_iald rfl rfl (Or.inl rfl) rfl (by omega) (by decide) ?_
          refine a_as (y := nI (gN A 0)) e0 ?_
          refine a_iremN rfl rfl (by omega) (by omega) (by omega) ?_
          refine a_iload_1 rfl rfl ?_
          refine a_iconst (v := (nI 5)) rfl rfl rfl ?_
          refine a_idivN rfl rfl (by omega) (by omega) (by omega) ?_
          refine a_bipush (v := (nI 30)) rfl rfl rfl ?_
          refine a_iremN rfl rfl (by omega) (by omega) (by omega) ?_
          refine a_virtI rfl rfl (Cc) (Nat.le_of_ble_eq_true rfl) ⟨rfl, rfl, rfl, rfl⟩ rfl rfl rfl (Nat.le_of_ble_eq_true rfl) rfl rfl ?_
          refine a_ifb_eq rfl rfl rfl (fun _ => ?_) (fun c_80 => by first | exact absurd hc c_80 | exact absurd c_80 hc)
          exact a_vret rfl rfl
      · rw [if_neg (fun q => hn q.1)]
        refine ⟨h, gl, ?_, CF_refl, fun _ _ => rfl, H⟩
        show avA _ 275 0 [.ref 81, .int (nI (x))] [] _ _
        refine a_iload_1 rfl rfl ?_
        refine a_iconst (v := (nI 5)) rfl rfl rfl ?_
        refine a_iremN rfl rfl (by omega) (by omega) (by omega) ?_
        refine a_as (y := nI (1)) (congrArg nI c1) ?_
        refine a_tabIn rfl (by decide) rfl rfl ?_
        refine a_aload_0 rfl rfl ?_
        refine a_getr rfl rfl rfl (fun _ _ _ => rfl) rfl ?_
        refine a_iconst (v := (nI 0)) rfl rfl rfl ?_
        refine a_iald rfl rfl (Or.inl rfl) rfl (by omega) (by decide) ?_
        refine a_as (y := nI (gN A 0)) e0 ?_
        refine a_ifN_le rfl rfl rfl (by omega) (fun _ => ?_) (fun c_59 => False.elim (by omega))
        exact a_vret rfl rfl
    · rw [if_neg c1]
      by_cases c2 : x % 5 = 2
      · rw [if_pos c2]
        by_cases c4 : x % 4 = 0
        · rw [if_pos c4]
          refine ⟨va_up h 82 (va_up A 9 (-1)), gl, ?_, CF_up CF_refl rfl, fun _ _ => rfl, RI_up H rfl rfl rfl rfl (va_up_ne _ _ (by omega))⟩
          show avA _ 275 0 [.ref 81, .int (nI (x))] [] _ _
          refine a_iload_1 rfl rfl ?_
          refine a_iconst (v := (nI 5)) rfl rfl rfl ?_
          refine a_iremN rfl rfl (by omega) (by omega) (by omega) ?_
          refine a_as (y := nI (2)) (congrArg nI c2) ?_
          refine a_tabIn rfl (by decide) rfl rfl ?_
          refine a_iload_1 rfl rfl ?_
          refine a_iconst (v := (nI 4)) rfl rfl rfl ?_
          refine a_iremN rfl rfl (by omega) (by omega) (by omega) ?_
          refine a_ifN_ne rfl rfl rfl (by omega) (fun c_108 => False.elim (by omega)) (fun _ => ?_)
          refine a_aload_0 rfl rfl ?_
          refine a_getr rfl rfl rfl (fun _ _ _ => rfl) rfl ?_
          refine a_bipush (v := (nI 9)) rfl rfl rfl ?_
          refine a_iconst (v := (-1)) rfl rfl rfl ?_
          refine a_iast rfl rfl rfl rfl (by omega) (by decide) ?_
          refine a_goto rfl rfl ?_
          refine av_to (a_vret rfl rfl) ?_
          unfold mvPut
          rw [H.1]
        · rw [if_neg c4]
          refine ⟨h, gl, ?_, CF_refl, fun _ _ => rfl, H⟩
          show avA _ 275 0 [.ref 81, .int (nI (x))] [] _ _
          refine a_iload_1 rfl rfl ?_
          refine a_iconst (v := (nI 5)) rfl rfl rfl ?_
          refine a_iremN rfl rfl (by omega) (by omega) (by omega) ?_
          refine a_as (y := nI (2)) (congrArg nI c2) ?_
          refine a_tabIn rfl (by decide) rfl rfl ?_
          refine a_iload_1 rfl rfl ?_
          refine a_iconst (v := (nI 4)) rfl rfl rfl ?_
          refine a_iremN rfl rfl (by omega) (by omega) (by omega) ?_
          refine a_ifN_ne rfl rfl rfl (by omega) (fun _ => ?_) (fun c_108 => False.elim (by omega))
          exact a_vret rfl rfl
      · rw [if_neg c2]
        have h34 : x % 5 = 3 ∨ x % 5 = 4 := by omega
        by_cases q : gN A 8 = 9999
        · rw [if_pos q]
          refine ⟨h, gl, ?_, CF_refl, fun _ _ => rfl, H⟩
          rcases h34 with c3 | c3
          · show avA _ 275 0 [.ref 81, .int (nI (x))] [] _ _
            refine a_iload_1 rfl rfl ?_
            refine a_iconst (v := (nI 5)) rfl rfl rfl ?_
            refine a_iremN rfl rfl (by omega) (by omega) (by omega) ?_
            refine a_as (y := nI (3)) (congrArg nI c3) ?_
            refine a_tabOut rfl (by decide) rfl ?_
            refine a_aload_0 rfl rfl ?_
            refine a_getr rfl rfl rfl (fun _ _ _ => rfl) rfl ?_
            refine a_bipush (v := (nI 8)) rfl rfl rfl ?_
            refine a_iald rfl rfl (Or.inl rfl) rfl (by omega) (by decide) ?_
            refine a_as (y := nI (gN A 8)) e8 ?_
            refine a_sipush (v := (nI 9999)) rfl rfl rfl ?_
            refine a_cmpN_ge rfl rfl rfl (by omega) (by omega) (fun _ => ?_) (fun c_132 => False.elim (by omega))
            exact a_vret rfl rfl
          · show avA _ 275 0 [.ref 81, .int (nI (x))] [] _ _
            refine a_iload_1 rfl rfl ?_
            refine a_iconst (v := (nI 5)) rfl rfl rfl ?_
            refine a_iremN rfl rfl (by omega) (by omega) (by omega) ?_
            refine a_as (y := nI (4)) (congrArg nI c3) ?_
            refine a_tabOut rfl (by decide) rfl ?_
            refine a_aload_0 rfl rfl ?_
            refine a_getr rfl rfl rfl (fun _ _ _ => rfl) rfl ?_
            refine a_bipush (v := (nI 8)) rfl rfl rfl ?_
            refine a_iald rfl rfl (Or.inl rfl) rfl (by omega) (by decide) ?_
            refine a_as (y := nI (gN A 8)) e8 ?_
            refine a_sipush (v := (nI 9999)) rfl rfl rfl ?_
            refine a_cmpN_ge rfl rfl rfl (by omega) (by omega) (fun _ => ?_) (fun c_132 => False.elim (by omega))
            exact a_vret rfl rfl
        · rw [if_neg q]
          obtain ⟨k0, hk0⟩ := nI_ex (h 81 26)
          obtain ⟨h2, gl2, C2, cc, d2, d3, d4⟩ := R_pass (L := L) (t := t) (lt := lt) (rt := rt) (rp := rp) (sw := sw) (gl := gl) (TX := TX) true ok k0 (by omega) H.1 H.2.2.1 hk0 H.2.2.2
          have e := mEq_ps (TX := TX) (wr := true) ok.1
          refine ⟨h2, gl2, ?_, CF_rf rfl cc, d3, RI_up H d2 (cc 83 rfl) (cc 84 rfl) (d3 25 (by omega)) (e.1 1 (by omega))⟩
          rcases h34 with c3 | c3
          · show avA _ 275 0 [.ref 81, .int (nI (x))] [] _ _
            refine a_iload_1 rfl rfl ?_
            refine a_iconst (v := (nI 5)) rfl rfl rfl ?_
            refine a_iremN rfl rfl (by omega) (by omega) (by omega) ?_
            refine a_as (y := nI (3)) (congrArg nI c3) ?_
            refine a_tabOut rfl (by decide) rfl ?_
            refine a_aload_0 rfl rfl ?_
            refine a_getr rfl rfl rfl (fun _ _ _ => rfl) rfl ?_
            refine a_bipush (v := (nI 8)) rfl rfl rfl ?_
            refine a_iald rfl rfl (Or.inl rfl) rfl (by omega) (by decide) ?_
            refine a_as (y := nI (gN A 8)) e8 ?_
            refine a_sipush (v := (nI 9999)) rfl rfl rfl ?_
            refine a_cmpN_ge rfl rfl rfl (by omega) (by omega) (fun c_132 => False.elim (by omega)) (fun _ => ?_)
            refine a_aload_0 rfl rfl ?_
            refine a_virt0 rfl rfl (C2) (Nat.le_of_ble_eq_true rfl) ⟨rfl, rfl, rfl, rfl⟩ rfl rfl rfl (Nat.le_of_ble_eq_true rfl) rfl rfl ?_
            exact a_vret rfl rfl
          · show avA _ 275 0 [.ref 81, .int (nI (x))] [] _ _
            refine a_iload_1 rfl rfl ?_
            refine a_iconst (v := (nI 5)) rfl rfl rfl ?_
            refine a_iremN rfl rfl (by omega) (by omega) (by omega) ?_
            refine a_as (y := nI (4)) (congrArg nI c3) ?_
            refine a_tabOut rfl (by decide) rfl ?_
            refine a_aload_0 rfl rfl ?_
            refine a_getr rfl rfl rfl (fun _ _ _ => rfl) rfl ?_
            refine a_bipush (v := (nI 8)) rfl rfl rfl ?_
            refine a_iald rfl rfl (Or.inl rfl) rfl (by omega) (by decide) ?_
            refine a_as (y := nI (gN A 8)) e8 ?_
            refine a_sipush (v := (nI 9999)) rfl rfl rfl ?_
            refine a_cmpN_ge rfl rfl rfl (by omega) (by omega) (fun c_132 => False.elim (by omega)) (fun _ => ?_)
            refine a_aload_0 rfl rfl ?_
            refine a_virt0 rfl rfl (C2) (Nat.le_of_ble_eq_true rfl) ⟨rfl, rfl, rfl, rfl⟩ rfl rfl rfl (Nat.le_of_ble_eq_true rfl) rfl rfl ?_
            exact a_vret rfl rfl
theorem C_draw (H : CI A B TX R t lt h) (k : KL A) : avE 0 109 [.ref 14] (sX L t lt rt rp sw h gl) (some (.int (nI (gN A 11))), sX L t lt rt rp sw (mvPut h 14 3 (nI ((gN A 11 * 439 + 317) % 30559))) gl) ∧ CF [14] h (mvPut h 14 3 (nI ((gN A 11 * 439 + 317) % 30559))) ∧ CI (drA A) B TX R t lt (mvPut h 14 3 (nI ((gN A 11 * 439 + 317) % 30559))) := by
  have x11 := gN_le (m := 30558) H.1.1 (i := 11) (by omega) (by decide)
  have e3 : h 14 3 = nI (gN A 11) := H.2.2.2.1.2.1.2.2.2.1.trans (gN_eq H.1.1 (by omega) (by decide))
  have c2 : CF [14] h (mvPut h 14 3 (nI ((gN A 11 * 439 + 317) % 30559))) := CF_put CF_refl rfl
  exact ⟨e_draw_14 (gN A 11) (by omega) e3, c2, CI_mom H k mEq_dr (drA_OK H.1.1) c2 rfl rfl rfl (MR_x H.2.2.2.1.2.1) (BK_A H.2.2.2.1.2.2.1 rfl rfl rfl (va_up_ne _ _ (by omega)) (same_up (by omega))) (LI_cf (LI_same (mEq_same mEq_dr) (va_up_ne _ _ (by omega)) H.2.2.2.2.2.2) rfl c2)⟩
end YE
section YL
variable {L t : Nat} {rt rp : Option Nat} {sw : Bool} {B : Nat → Int32} {TX : Nat → Txt}
theorem l_cyears {gl : Nat → Nat → Int64} (s : Int32) (n : Nat) (hn : n ≤ 40) (j : Nat) : ∀ (i R : Nat) (A : Nat → Int32) (lt : Option Nat) (h : Nat → Nat → Int32), i + j = n → KL A → CI A B TX R t lt h → R + j < 67108864 → ∃ h' lt' R', avA 7 115 49 [.ref 7, .int s, .int (nI n), .int (nI i)] [] (sX L t lt rt rp sw h gl) (some (.int (yrS TX j A 8)), sX L t lt' rt rp sw h' gl) ∧ CF clS h h' ∧ CI (yrS TX j A) B TX R' t lt' h' ∧ R ≤ R' ∧ R' ≤ R + j := by
  induction j with
  | zero =>
    intro i R A lt h hi k H hR
    refine ⟨h, lt, R, ?_, CF_refl, H, by omega, by omega⟩
    refine a_iload_3 rfl rfl ?_
    refine a_iload_2 rfl rfl ?_
    refine a_cmpN_ge rfl rfl rfl (by omega) (by omega) (fun _ => ?_) (fun c_51 => False.elim (by omega))
    refine a_aload_0 rfl rfl ?_
    refine a_getr rfl rfl rfl (fun _ _ _ => rfl) rfl ?_
    refine a_getr rfl rfl rfl (fun _ _ _ => rfl) rfl ?_
    refine a_geti rfl rfl rfl (fun _ _ _ => rfl) ?_
    refine a_as (y := A 8) H.2.2.2.1.2.1.2.2.1 ?_
    exact a_iret rfl rfl
  | succ j ih =>
    intro i R A lt h hi k H hR
    have x11 := gN_le (m := 30558) H.1.1 (i := 11) (by omega) (by decide)
    obtain ⟨C1, c1, H1⟩ := C_draw (L := L) (rt := rt) (rp := rp) (sw := sw) (gl := gl) H k
    obtain ⟨o1, k1, o2, k2, _⟩ := yr1_ok (TX := TX) H.1 k
    obtain ⟨h2, lt2, R2, C2, c2, H2, r1, r2⟩ := C_year (L := L) (rt := rt) (rp := rp) (sw := sw) (gl := gl) H1 k1 (by omega) (gN A 11) (by omega)
    obtain ⟨h3, lt3, R3, A3, c3, H3, r3, r4⟩ := ih (i + 1) R2 _ lt2 h2 (by omega) k2 H2 (by omega)
    refine ⟨h3, lt3, R3, ?_, CF_trans (CF_cl rfl c1) (CF_trans c2 c3), H3, by omega, by omega⟩
    refine a_iload_3 rfl rfl ?_
    refine a_iload_2 rfl rfl ?_
    refine a_cmpN_ge rfl rfl rfl (by omega) (by omega) (fun c_51 => False.elim (by omega)) (fun _ => ?_)
    refine a_aload_0 rfl rfl ?_
    refine a_aload_0 rfl rfl ?_
    refine a_getr rfl rfl rfl (fun _ _ _ => rfl) rfl ?_
    refine a_getr rfl rfl rfl (fun _ _ _ => rfl) rfl ?_
    refine a_virtI rfl rfl (C1) (Nat.le_of_ble_eq_true rfl) ⟨rfl, rfl, rfl, rfl⟩ rfl rfl rfl (Nat.le_of_ble_eq_true rfl) rfl rfl ?_
    refine a_virt0 rfl rfl (C2) (Nat.le_of_ble_eq_true rfl) ⟨rfl, rfl, rfl, rfl⟩ rfl rfl rfl (Nat.le_of_ble_eq_true rfl) rfl rfl ?_
    refine a_iinc_3 rfl rfl (nI_inc _ _) rfl ?_
    refine a_goto rfl rfl ?_
    exact A3
theorem l_ryears {lt : Option Nat} (s : Int32) (n : Nat) (hn : n ≤ 40) (j : Nat) : ∀ (i : Nat) (y4 : Value) (A : Nat → Int32) (h : Nat → Nat → Int32) (gl : Nat → Nat → Int64), i + j = n → okA A → KL A → RI A B TX h → ∃ h' gl', avA 10 274 43 [.ref 81, .int s, .int (nI n), .int (nI i), y4] [] (sX L t lt rt rp sw h gl) (some (.int (yrS TX j A 8)), sX L t lt rt rp sw h' gl') ∧ CF rfS h h' ∧ (∀ j, j ≠ 26 → h' 81 j = h 81 j) ∧ RI (yrS TX j A) B TX h' := by
  induction j with
  | zero =>
    intro i y4 A h gl hi ok k H
    refine ⟨h, gl, ?_, CF_refl, fun _ _ => rfl, H⟩
    refine a_iload_3 rfl rfl ?_
    refine a_iload_2 rfl rfl ?_
    refine a_cmpN_ge rfl rfl rfl (by omega) (by omega) (fun _ => ?_) (fun c_45 => False.elim (by omega))
    refine a_aload_0 rfl rfl ?_
    refine a_getr rfl rfl rfl (fun _ _ _ => rfl) rfl ?_
    refine a_bipush (v := (nI 8)) rfl rfl rfl ?_
    refine a_iald rfl rfl (Or.inl rfl) rfl (by omega) (by decide) ?_
    refine a_as (y := A 8) (by rw [H.1]) ?_
    exact a_iret rfl rfl
  | succ j ih =>
    intro i y4 A h gl hi ok k H
    have x11 := gN_le (m := 30558) ok.1 (i := 11) (by omega) (by decide)
    have e11 : h 82 11 = nI (gN A 11) := by rw [H.1]; exact gN_eq ok.1 (by omega) (by decide)
    have C1 := r_anew (L := L) (t := t) (lt := lt) (rt := rt) (rp := rp) (sw := sw) (gl := gl) (gN A 11) (by omega) e11
    rw [H.1] at C1
    have H1 : RI (drA A) B TX (va_up h 82 (drA A)) := RI_up H rfl rfl rfl rfl (drA_ne (by omega))
    obtain ⟨o1, k1, o2, k2, _⟩ := yr1_ok (TX := TX) ok k
    obtain ⟨h2, gl2, C2, c2, d2, H2⟩ := R_year (L := L) (t := t) (lt := lt) (rt := rt) (rp := rp) (sw := sw) (gl := gl) o1 H1 (gN A 11) (by omega)
    obtain ⟨h3, gl3, A3, c3, d3, H3⟩ := ih (i + 1) (.int (nI (gN A 11))) _ h2 gl2 (by omega) o2 k2 H2
    refine ⟨h3, gl3, ?_, CF_trans (CF_up CF_refl rfl) (CF_trans c2 c3), fun j hj => (d3 j hj).trans (d2 j hj), H3⟩
    refine a_iload_3 rfl rfl ?_
    refine a_iload_2 rfl rfl ?_
    refine a_cmpN_ge rfl rfl rfl (by omega) (by omega) (fun c_45 => False.elim (by omega)) (fun _ => ?_)
    refine a_aload_0 rfl rfl ?_
    refine a_getr rfl rfl rfl (fun _ _ _ => rfl) rfl ?_
    refine a_bipush (v := (nI 11)) rfl rfl rfl ?_
    refine a_iald rfl rfl (Or.inl rfl) rfl (by omega) (by decide) ?_
    refine a_as (y := nI (gN A 11)) e11 ?_
    refine a_istore_4 rfl rfl rfl ?_
    refine a_aload_0 rfl rfl ?_
    refine a_virt0 rfl rfl (C1) (Nat.le_of_ble_eq_true rfl) ⟨rfl, rfl, rfl, rfl⟩ rfl rfl rfl (Nat.le_of_ble_eq_true rfl) rfl rfl ?_
    refine a_aload_0 rfl rfl ?_
    refine a_iload_4 rfl rfl ?_
    refine a_virt0 rfl rfl (C2) (Nat.le_of_ble_eq_true rfl) ⟨rfl, rfl, rfl, rfl⟩ rfl rfl rfl (Nat.le_of_ble_eq_true rfl) rfl rfl ?_
    refine a_iinc_3 rfl rfl (nI_inc _ _) rfl ?_
    refine a_goto rfl rfl ?_
    exact A3
end YL
section YP
variable {A B : Nat → Int32} {TX : Nat → Txt}
theorem p_years (hA : okA A) (s n : Int32) : ∃ r A', opP 40 7 115 [.ref 7, .int s, .int n] 10 274 [.ref 81, .int s, .int n] TX A B r A' B := by
  by_cases hn : (0 ≤ s.toInt ∧ s.toInt ≤ 9999) ∧ 1 ≤ n.toInt ∧ n.toInt ≤ 40
  · obtain ⟨m, hm, rfl, _⟩ := cell_of (x := n) (m := 41) (by omega) (by omega)
    obtain ⟨q, hq, rfl, _⟩ := cell_of (x := s) (m := 10000) (by omega) (by omega)
    rw [nI_toInt (by omega), nI_toInt (by omega)] at hn
    have hk := okA_keep hA
    have e : mEq (kpA A) (va_up (kpA A) 11 (nI (q * 2 + 197))) := mEq_up (by omega)
    have r1 : rOK (va_up (kpA A) 11 (nI (q * 2 + 197))) := rOK_up hk.1 (inB_nI (m := 30558) rfl (by omega) (by omega))
    obtain ⟨o1, k1⟩ := mEq_ok hk (KL_keep hA.1) e r1
    obtain ⟨o2, g2⟩ := yrS_ok (TX := TX) m _ o1 k1
    refine ⟨yrS TX m (va_up (kpA A) 11 (nI (q * 2 + 197))) 8, yrS TX m (va_up (kpA A) 11 (nI (q * 2 + 197))), ?_, ?_, o2, g2.trans ((gN_c (va_up_ne _ _ (by omega))).trans (gN_c (kpA_1 hA.1)))⟩
    · intro L t lt rt rp sw h gl R H hR
      obtain ⟨h1, C1, c1, H1⟩ := C_keep (L := L) (rt := rt) (rp := rp) (sw := sw) (gl := gl) H
      have c2 : CF [14] h1 (mvPut h1 14 3 (nI (q * 2 + 197))) := CF_put CF_refl rfl
      have H2 : CI (va_up (kpA A) 11 (nI (q * 2 + 197))) B TX R t lt (mvPut h1 14 3 (nI (q * 2 + 197))) := CI_mom H1 (KL_keep hA.1) e r1 c2 rfl rfl rfl (MR_x H1.2.2.2.1.2.1) (BK_A H1.2.2.2.1.2.2.1 rfl rfl rfl (va_up_ne _ _ (by omega)) (same_up (by omega))) (LI_cf (LI_same (mEq_same e) (va_up_ne _ _ (by omega)) H1.2.2.2.2.2.2) rfl c2)
      obtain ⟨h3, lt3, R3, A3, c3, H3, r3, r4⟩ := l_cyears (L := L) (t := t) (rt := rt) (rp := rp) (sw := sw) (gl := gl) (B := B) (TX := TX) (nI q) m (by omega) m 0 R _ lt _ (by omega) k1 H2 (by omega)
      refine ⟨h3, lt3, R3, sw, ?_, CF_trans (CF_cl rfl c1) (CF_trans (CF_cl rfl c2) c3), H3, by omega, by omega⟩
      show avA _ 115 0 [.ref 7, .int (nI (q)), .int (nI (m)), mvU] [] _ _
      refine a_iload_1 rfl rfl ?_
      refine a_sipush (v := (nI 9999)) rfl rfl rfl ?_
      refine a_statI rfl rfl (e_isWithin (nI q) 9999 (by omega)) (Nat.le_of_ble_eq_true rfl) ⟨rfl, rfl, rfl⟩ rfl rfl rfl (Nat.le_of_ble_eq_true rfl) rfl ?_
      refine a_ifb_eq rfl rfl rfl (fun c_7 => by first | exact absurd c_7 (not_not_intro (by rw [nI_toInt (by omega)]; omega)) | exact absurd (not_not_intro (by rw [nI_toInt (by omega)]; omega)) c_7) (fun _ => ?_)
      refine a_iload_2 rfl rfl ?_
      refine a_iconst (v := (nI 1)) rfl rfl rfl ?_
      refine a_cmpN_lt rfl rfl rfl (by omega) (by omega) (fun c_12 => False.elim (by omega)) (fun _ => ?_)
      refine a_iload_2 rfl rfl ?_
      refine a_bipush (v := (nI 40)) rfl rfl rfl ?_
      refine a_cmpN_le rfl rfl rfl (by omega) (by omega) (fun _ => ?_) (fun c_18 => False.elim (by omega))
      refine a_aload_0 rfl rfl ?_
      refine a_getr rfl rfl rfl (fun _ _ _ => rfl) rfl ?_
      refine a_virt0 rfl rfl (C1) (Nat.le_of_ble_eq_true rfl) ⟨rfl, rfl, rfl, rfl⟩ rfl rfl rfl (Nat.le_of_ble_eq_true rfl) rfl rfl ?_
      refine a_aload_0 rfl rfl ?_
      refine a_getr rfl rfl rfl (fun _ _ _ => rfl) rfl ?_
      refine a_getr rfl rfl rfl (fun _ _ _ => rfl) rfl ?_
      refine a_iload_1 rfl rfl ?_
      refine a_iconst (v := (nI 2)) rfl rfl rfl ?_
      refine a_imulN rfl rfl ?_
      refine a_sipush (v := (nI 197)) rfl rfl rfl ?_
      refine a_iaddN rfl rfl ?_
      refine a_puti rfl rfl rfl rfl ?_
      refine a_iconst (v := (nI 0)) rfl rfl rfl ?_
      refine a_istore_3 rfl rfl rfl ?_
      exact A3
    · intro L t lt rt rp sw h gl ok H
      obtain ⟨C1, H1⟩ := R_keep (L := L) (t := t) (lt := lt) (rt := rt) (rp := rp) (sw := sw) (gl := gl) ok H
      have H2 : RI (va_up (kpA A) 11 (nI (q * 2 + 197))) B TX (va_up h 82 (va_up (kpA A) 11 (nI (q * 2 + 197)))) := RI_up H1 rfl rfl rfl rfl (va_up_ne _ _ (by omega))
      obtain ⟨h3, gl3, A3, c3, d3, H3⟩ := l_ryears (L := L) (t := t) (lt := lt) (rt := rt) (rp := rp) (sw := sw) (B := B) (TX := TX) (nI q) m (by omega) m 0 mvU _ _ gl (by omega) o1 k1 H2
      refine ⟨h3, gl3, ?_, CF_trans (CF_up CF_refl rfl) c3, d3, H3⟩
      show avA _ 274 0 [.ref 81, .int (nI (q)), .int (nI (m)), mvU, mvU] [] _ _
      refine a_iload_1 rfl rfl ?_
      refine a_iconst (v := (nI 0)) rfl rfl rfl ?_
      refine a_sipush (v := (nI 9999)) rfl rfl rfl ?_
      refine a_statI rfl rfl (r_isIn0 (nI q) 0 9999 (by omega) (by omega)) (Nat.le_of_ble_eq_true rfl) ⟨rfl, rfl, rfl⟩ rfl rfl rfl (Nat.le_of_ble_eq_true rfl) rfl ?_
      refine a_ifb_eq rfl rfl rfl (fun c_8 => by first | exact absurd c_8 (not_not_intro (by rw [nI_toInt (by omega)]; omega)) | exact absurd (not_not_intro (by rw [nI_toInt (by omega)]; omega)) c_8) (fun _ => ?_)
      refine a_iload_2 rfl rfl ?_
      refine a_iconst (v := (nI 1)) rfl rfl rfl ?_
      refine a_bipush (v := (nI 40)) rfl rfl rfl ?_
      refine a_statI rfl rfl (r_isIn0 (nI m) 1 40 (by omega) (by omega)) (Nat.le_of_ble_eq_true rfl) ⟨rfl, rfl, rfl⟩ rfl rfl rfl (Nat.le_of_ble_eq_true rfl) rfl ?_
      refine a_ifb_ne rfl rfl rfl (fun _ => ?_) (fun c_18 => by first | exact absurd (by rw [nI_toInt (by omega)]; omega) c_18 | exact absurd c_18 (by rw [nI_toInt (by omega)]; omega))
      refine a_aload_0 rfl rfl ?_
      refine a_virt0 rfl rfl (C1) (Nat.le_of_ble_eq_true rfl) ⟨rfl, rfl, rfl, rfl⟩ rfl rfl rfl (Nat.le_of_ble_eq_true rfl) rfl rfl ?_
      refine a_aload_0 rfl rfl ?_
      refine a_getr rfl rfl rfl (fun _ _ _ => rfl) rfl ?_
      refine a_bipush (v := (nI 11)) rfl rfl rfl ?_
      refine a_iload_1 rfl rfl ?_
      refine a_iconst (v := (nI 2)) rfl rfl rfl ?_
      refine a_imulN rfl rfl ?_
      refine a_sipush (v := (nI 197)) rfl rfl rfl ?_
      refine a_iaddN rfl rfl ?_
      refine a_iast rfl rfl rfl rfl (by omega) (by decide) ?_
      rw [up_put]
      refine a_iconst (v := (nI 0)) rfl rfl rfl ?_
      refine a_istore_3 rfl rfl rfl ?_
      exact A3
  · refine ⟨-1, A, ?_, ?_, hA, rfl⟩
    · intro L t lt rt rp sw h gl R H hR
      refine ⟨h, lt, R, sw, ?_, CF_refl, H, by omega, by omega⟩
      show avA _ 115 0 [.ref 7, .int (s), .int (n), mvU] [] _ _
      refine a_iload_1 rfl rfl ?_
      refine a_sipush (v := (nI 9999)) rfl rfl rfl ?_
      refine a_statI rfl rfl (e_isWithin s 9999 (by omega)) (Nat.le_of_ble_eq_true rfl) ⟨rfl, rfl, rfl⟩ rfl rfl rfl (Nat.le_of_ble_eq_true rfl) rfl ?_
      refine a_ifb_eq rfl rfl rfl (fun c_7 => ?_) (fun c_7 => ?_)
      · refine a_iconst (v := (-1)) rfl rfl rfl ?_
        exact a_iret rfl rfl
      · refine a_iload_2 rfl rfl ?_
        refine a_iconst (v := (nI 1)) rfl rfl rfl ?_
        refine a_cmpI_lt rfl rfl rfl rfl (nI_toInt (by omega)) (fun c_12 => ?_) (fun c_12 => ?_)
        · refine a_iconst (v := (-1)) rfl rfl rfl ?_
          exact a_iret rfl rfl
        · refine a_iload_2 rfl rfl ?_
          refine a_bipush (v := (nI 40)) rfl rfl rfl ?_
          refine a_cmpI_le rfl rfl rfl rfl (nI_toInt (by omega)) (fun c_18 => False.elim (hn ⟨c_7, by omega, by omega⟩)) (fun _ => ?_)
          refine a_iconst (v := (-1)) rfl rfl rfl ?_
          exact a_iret rfl rfl
    · intro L t lt rt rp sw h gl ok H
      refine ⟨h, gl, ?_, CF_refl, fun _ _ => rfl, H⟩
      show avA _ 274 0 [.ref 81, .int (s), .int (n), mvU, mvU] [] _ _
      refine a_iload_1 rfl rfl ?_
      refine a_iconst (v := (nI 0)) rfl rfl rfl ?_
      refine a_sipush (v := (nI 9999)) rfl rfl rfl ?_
      refine a_statI rfl rfl (r_isIn0 s 0 9999 (by omega) (by omega)) (Nat.le_of_ble_eq_true rfl) ⟨rfl, rfl, rfl⟩ rfl rfl rfl (Nat.le_of_ble_eq_true rfl) rfl ?_
      refine a_ifb_eq rfl rfl rfl (fun c_8 => ?_) (fun c_8 => ?_)
      · refine a_iconst (v := (-1)) rfl rfl rfl ?_
        exact a_iret rfl rfl
      · refine a_iload_2 rfl rfl ?_
        refine a_iconst (v := (nI 1)) rfl rfl rfl ?_
        refine a_bipush (v := (nI 40)) rfl rfl rfl ?_
        refine a_statI rfl rfl (r_isIn0 n 1 40 (by omega) (by omega)) (Nat.le_of_ble_eq_true rfl) ⟨rfl, rfl, rfl⟩ rfl rfl rfl (Nat.le_of_ble_eq_true rfl) rfl ?_
        refine a_ifb_ne rfl rfl rfl (fun c_18 => by first | exact absurd c_18 (fun q => hn ⟨c_8, by omega, by omega⟩) | exact absurd (fun q => hn ⟨c_8, by omega, by omega⟩) c_18) (fun _ => ?_)
        refine a_iconst (v := (-1)) rfl rfl rfl ?_
        exact a_iret rfl rfl
end YP
