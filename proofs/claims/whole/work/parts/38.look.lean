/-! LOOKING: where the moon is thought to be -/
theorem lyR_lt (lt by_ rt rp : Option Nat) (sw : Bool) (t : Nat) : mvPut (lyR lt rt rp sw t) 8 4 by_ = lyR by_ rt rp sw t := by
  funext o
  by_cases e : o = 8
  · subst e
    unfold mvPut
    rw [va_up_self]
    funext k
    by_cases e : k = 4
    · subst e; rw [va_up_self]; rfl
    · rw [va_up_ne _ _ e]
      match k, e with
      | 0, _ => rfl
      | 1, _ => rfl
      | 2, _ => rfl
      | 3, _ => rfl
      | 5, _ => rfl
      | 6, _ => rfl
      | 7, _ => rfl
      | 8, _ => rfl
      | n + 9, _ => rfl
  · unfold mvPut
    rw [va_up_ne _ _ e]
    match o, e with
    | 0, _ => rfl
    | 1, _ => rfl
    | 2, _ => rfl
    | 3, _ => rfl
    | 4, _ => rfl
    | 5, _ => rfl
    | 6, _ => rfl
    | 7, _ => rfl
    | 9, _ => rfl
    | 10, _ => rfl
    | 11, _ => rfl
    | 12, _ => rfl
    | 13, _ => rfl
    | 14, _ => rfl
    | 15, _ => rfl
    | 16, _ => rfl
    | 17, _ => rfl
    | 18, _ => rfl
    | 19, _ => rfl
    | 20, _ => rfl
    | 21, _ => rfl
    | 22, _ => rfl
    | 23, _ => rfl
    | 24, _ => rfl
    | 25, _ => rfl
    | 26, _ => rfl
    | 27, _ => rfl
    | 28, _ => rfl
    | 29, _ => rfl
    | 30, _ => rfl
    | 31, _ => rfl
    | 32, _ => rfl
    | 33, _ => rfl
    | 34, _ => rfl
    | 35, _ => rfl
    | 36, _ => rfl
    | 37, _ => rfl
    | 38, _ => rfl
    | 39, _ => rfl
    | 40, _ => rfl
    | 41, _ => rfl
    | 42, _ => rfl
    | 43, _ => rfl
    | 44, _ => rfl
    | 45, _ => rfl
    | 46, _ => rfl
    | 47, _ => rfl
    | 48, _ => rfl
    | 49, _ => rfl
    | 50, _ => rfl
    | 51, _ => rfl
    | 52, _ => rfl
    | 53, _ => rfl
    | 54, _ => rfl
    | 55, _ => rfl
    | 56, _ => rfl
    | 57, _ => rfl
    | 58, _ => rfl
    | 59, _ => rfl
    | 60, _ => rfl
    | 61, _ => rfl
    | 62, _ => rfl
    | 63, _ => rfl
    | 64, _ => rfl
    | 65, _ => rfl
    | 66, _ => rfl
    | 67, _ => rfl
    | 68, _ => rfl
    | 69, _ => rfl
    | 70, _ => rfl
    | 71, _ => rfl
    | 72, _ => rfl
    | 73, _ => rfl
    | 74, _ => rfl
    | 75, _ => rfl
    | 76, _ => rfl
    | 77, _ => rfl
    | 78, _ => rfl
    | 79, _ => rfl
    | 80, _ => rfl
    | 81, _ => rfl
    | 82, _ => rfl
    | 83, _ => rfl
    | 84, _ => rfl
    | 85, _ => rfl
    | 86, _ => rfl
    | 87, _ => rfl
    | 88, _ => rfl
    | 89, _ => rfl
    | 90, _ => rfl
    | 91, _ => rfl
    | 92, _ => rfl
    | 93, _ => rfl
    | 94, _ => rfl
    | 95, _ => rfl
    | 96, _ => rfl
    | 97, _ => rfl
    | n + 98, _ => rfl
theorem av_ls {d k : Nat} {as L : List Value} {σ : mvSt} {r : Option Value × mvSt} (e : mvLs (mvT k).2.2.1 as = L) (A : avA d k 0 L [] σ r) : avE d k as σ r := by
  unfold avE
  rw [e]
  exact A
/-- the laws' state before a look: the moon's row need not be there -/
def LWy (A : Nat → Int32) (h : Nat → Nat → Int32) (mo : Int32) (R ho sz : Nat) : Prop := h 8 5 = mo ∧ (mo = -1 ∨ inC mo) ∧ h 8 6 = nI ho ∧ h 8 7 = nI sz ∧ h 8 9 = nI R ∧ 1 ≤ R ∧ R < 67108864 ∧ ho ≤ 9999 ∧ sz ≤ 15 ∧ rPth (frA A) (h 9) (h 10)
theorem LWx_y {A : Nat → Int32} {h : Nat → Nat → Int32} {mo : Int32} {R ho sz : Nat} (H : LWx A h mo R ho sz) : LWy A h mo R ho sz := by
  obtain ⟨x1, x2, x3, x4, x5, x6, x7, x8, x9, x10, x11⟩ := H
  exact ⟨x1, x2, x3, x4, x5, x6, x7, x8, x9, x10⟩
section LK
variable {L t : Nat} {lt rt rp : Option Nat} {sw : Bool} {h : Nat → Nat → Int32} {gl : Nat → Nat → Int64}
theorem e_measure_out (x : Int32) (hx : ¬ inC x) : avE 1 93 [.ref 9, .int x] (sX L t lt rt rp sw h gl) (none, sX L t lt rt rp sw h gl) := by
  show avA _ 93 0 [.ref 9, .int (x), mvU, mvU, mvU, mvU, mvU, mvU, mvU] [] _ _
  refine a_iload_1 rfl rfl ?_
  refine a_statI rfl rfl (e_isCell _) (Nat.le_of_ble_eq_true rfl) ⟨rfl, rfl, rfl⟩ rfl rfl rfl (Nat.le_of_ble_eq_true rfl) rfl ?_
  refine a_ifb_eq rfl rfl rfl (fun _ => ?_) (fun c_4 => by first | exact absurd hx c_4 | exact absurd c_4 hx)
  exact a_vret rfl rfl
theorem l_look (by_ : Option Nat) (place ho sz : Int32) (op : Nat → Bool) (hP : rPth op (h 9) (h 10)) : ∃ F G mo, avA 2 101 29 [.ref 8, mvRv by_, .int place, .int ho, .int sz] [] (sX L t lt rt rp sw h gl) (none, sX L t by_ rt rp sw (va_up (va_up (mvPut (mvPut (mvPut h 8 5 mo) 8 6 ho) 8 7 sz) 9 F) 10 G) gl) ∧ rPth op F G ∧ (inC place → mo = place) ∧ (¬ inC place → mo = -1) ∧ (mo = -1 ∨ inC mo) ∧ ∀ n, n < 30 → mo = nI n → ∀ c, c < 30 → G (n * 30 + c) = frF op mo c := by
  by_cases hc : inC place
  · obtain ⟨n, hn, rfl⟩ := inC_of hc
    obtain ⟨F, G, C, hFG, hG⟩ := e_measure (L := L) (t := t) (lt := by_) (rt := rt) (rp := rp) (sw := sw) (gl := gl) (h := mvPut (mvPut (mvPut h 8 5 (nI n)) 8 6 ho) 8 7 sz) n hn op hP
    refine ⟨F, G, nI n, ?_, hFG, fun _ => rfl, fun q => absurd hc q, Or.inr hc, fun m hm e => ?_⟩
    · refine a_aload_0 rfl rfl ?_
      refine a_aloadV_1 rfl rfl ?_
      refine a_putr rfl rfl rfl rfl ?_
      rw [lyR_lt]
      refine a_aload_0 rfl rfl ?_
      refine a_iload_2 rfl rfl ?_
      refine a_statI rfl rfl (e_isCell _) (Nat.le_of_ble_eq_true rfl) ⟨rfl, rfl, rfl⟩ rfl rfl rfl (Nat.le_of_ble_eq_true rfl) rfl ?_
      refine a_ifb_eq rfl rfl rfl (fun c_39 => by first | exact absurd c_39 (not_not_intro hc) | exact absurd (not_not_intro hc) c_39) (fun _ => ?_)
      refine a_iload_2 rfl rfl ?_
      refine a_goto rfl rfl ?_
      refine a_puti rfl rfl rfl rfl ?_
      refine a_aload_0 rfl rfl ?_
      refine a_iload_3 rfl rfl ?_
      refine a_puti rfl rfl rfl rfl ?_
      refine a_aload_0 rfl rfl ?_
      refine a_iload_4 rfl rfl ?_
      refine a_puti rfl rfl rfl rfl ?_
      refine a_aload_0 rfl rfl ?_
      refine a_getr rfl rfl rfl (fun _ _ _ => rfl) rfl ?_
      refine a_aload_0 rfl rfl ?_
      refine a_geti rfl rfl rfl (fun _ _ _ => rfl) ?_
      refine a_virt0 rfl rfl (C) (Nat.le_of_ble_eq_true rfl) ⟨rfl, rfl, rfl, rfl⟩ rfl rfl rfl (Nat.le_of_ble_eq_true rfl) rfl rfl ?_
      exact a_vret rfl rfl
    · have := (nI_eq (by omega) (by omega)).mp e
      subst this
      exact hG
  · refine ⟨h 9, h 10, -1, ?_, hP, fun q => absurd q hc, fun _ => rfl, Or.inl rfl, fun m hm e => absurd e.symm (nI_ne_m1 (by omega))⟩
    have C := e_measure_out (L := L) (t := t) (lt := by_) (rt := rt) (rp := rp) (sw := sw) (gl := gl) (h := mvPut (mvPut (mvPut h 8 5 (-1)) 8 6 ho) 8 7 sz) (-1) (by decide)
    refine a_aload_0 rfl rfl ?_
    refine a_aloadV_1 rfl rfl ?_
    refine a_putr rfl rfl rfl rfl ?_
    rw [lyR_lt]
    refine a_aload_0 rfl rfl ?_
    refine a_iload_2 rfl rfl ?_
    refine a_statI rfl rfl (e_isCell _) (Nat.le_of_ble_eq_true rfl) ⟨rfl, rfl, rfl⟩ rfl rfl rfl (Nat.le_of_ble_eq_true rfl) rfl ?_
    refine a_ifb_eq rfl rfl rfl (fun _ => ?_) (fun c_39 => by first | exact absurd hc c_39 | exact absurd c_39 hc)
    refine a_iconst (v := (-1)) rfl rfl rfl ?_
    refine a_puti rfl rfl rfl rfl ?_
    refine a_aload_0 rfl rfl ?_
    refine a_iload_3 rfl rfl ?_
    refine a_puti rfl rfl rfl rfl ?_
    refine a_aload_0 rfl rfl ?_
    refine a_iload_4 rfl rfl ?_
    refine a_puti rfl rfl rfl rfl ?_
    refine a_aload_0 rfl rfl ?_
    refine a_getr rfl rfl rfl (fun _ _ _ => rfl) rfl ?_
    refine a_aload_0 rfl rfl ?_
    refine a_geti rfl rfl rfl (fun _ _ _ => rfl) ?_
    refine a_virt0 rfl rfl (C) (Nat.le_of_ble_eq_true rfl) ⟨rfl, rfl, rfl, rfl⟩ rfl rfl rfl (Nat.le_of_ble_eq_true rfl) rfl rfl ?_
    refine av_to (a_vret rfl rfl) ?_
    refine congrArg (fun h' => (none, sX L t by_ rt rp sw h' gl)) ?_
    exact ((congrArg (fun z => va_up z 10 (h 10)) (up_id (mvPut (mvPut (mvPut h 8 5 (-1)) 8 6 ho) 8 7 sz) 9)).trans (up_id (mvPut (mvPut (mvPut h 8 5 (-1)) 8 6 ho) 8 7 sz) 10)).symm
/-- look: the world of light is another -/
theorem e_look (by_ : Option Nat) (place : Int32) (ho sz ho0 sz0 R : Nat) (mo0 : Int32) (A : Nat → Int32) (f0 : Option (E1 → Int)) (fl : Nat → Option (E1 → Int)) (hx : LWy A h mo0 R ho0 sz0) (hf : LWf f0 A h R ho0 sz0) (hlt : lt = by_ → f0 = fl 0) (hby : ltR h t by_ fl) (hlt7 : ∀ z, lt = some z → 7 ≤ z) (hfm : fmR A h) (hR : R + 1 < 67108864) (hho : ho ≤ 9999) (hsz : sz ≤ 15) : ∃ h' mo R', avE 2 101 [.ref 8, mvRv by_, .int place, .int (nI ho), .int (nI sz)] (sX L t lt rt rp sw h gl) (none, sX L t by_ rt rp sw h' gl) ∧ CF [8, 9, 10] h h' ∧ LW fl A h' t by_ mo R' ho sz ∧ (inC place → mo = place) ∧ (¬ inC place → mo = -1) ∧ R ≤ R' ∧ R' ≤ R + 1 := by
  obtain ⟨x1, x2, x3, x4, x5, x6, x7, x8, x9, x10⟩ := hx
  have hby7 : ∀ z, by_ = some z → 7 ≤ z := by
    intro z hz
    subst hz
    obtain ⟨x, _, rfl, _⟩ := hby
    omega
  by_cases hS : by_ = lt ∧ ho = ho0 ∧ sz = sz0
  · obtain ⟨rfl, rfl, rfl⟩ := hS
    obtain ⟨F, G, mo, A1, P1, m1, m2, m3, m4⟩ := l_look (L := L) (t := t) (lt := by_) (rt := rt) (rp := rp) (sw := sw) (gl := gl) by_ place (nI ho) (nI sz) (frA A) x10
    refine ⟨va_up (va_up (mvPut (mvPut (mvPut h 8 5 mo) 8 6 (nI ho)) 8 7 (nI sz)) 9 F) 10 G, mo, R, ?_, CF_up (CF_up (CF_put (CF_put (CF_put CF_refl rfl) rfl) rfl) rfl) rfl, ⟨⟨rfl, m3, rfl, rfl, x5, x6, x7, hho, hsz, P1, m4⟩, ?_, ?_, hfm⟩, m1, m2, Nat.le_refl _, by omega⟩
    · refine av_ls (L := [.ref 8, mvRv (by_), .int (place), .int (nI (ho)), .int (nI (sz))]) (by cases by_ <;> rfl) ?_
      refine a_aloadV_1 rfl rfl ?_
      refine a_aload_0 rfl rfl ?_
      refine a_getv rfl rfl rfl (fun _ _ _ => rfl) ?_
      refine a_acmp rfl rfl rfl hby7 hby7 (fun c_5 => ?_) (fun c_5 => ?_)
      · exact absurd rfl c_5
      · refine a_iload_3 rfl rfl ?_
        refine a_aload_0 rfl rfl ?_
        refine a_geti rfl rfl rfl (fun _ _ _ => rfl) ?_
        refine a_as (y := nI (ho)) x3 ?_
        refine a_cmpN_ne rfl rfl rfl (by omega) (by omega) (fun c_13 => False.elim (by omega)) (fun _ => ?_)
        refine a_iload_4 rfl rfl ?_
        refine a_aload_0 rfl rfl ?_
        refine a_geti rfl rfl rfl (fun _ _ _ => rfl) ?_
        refine a_as (y := nI (sz)) x4 ?_
        refine a_cmpN_eq rfl rfl rfl (by omega) (by omega) (fun _ => ?_) (fun c_22 => False.elim (by omega))
        exact A1
    · rw [← hlt rfl]; exact hf
    · exact ltR_fr (fun p hp => by rw [va_up_ne _ _ (by omega), va_up_ne _ _ (by omega)]; exact (CF_put (CF_put (CF_put CF_refl rfl) rfl) rfl : CF [8] h (mvPut (mvPut (mvPut h 8 5 mo) 8 6 (nI ho)) 8 7 (nI sz))) p (by simp; omega)) hby
  · obtain ⟨F, G, mo, A1, P1, m1, m2, m3, m4⟩ := l_look (L := L) (t := t) (lt := lt) (rt := rt) (rp := rp) (sw := sw) (gl := gl) (h := mvPut h 8 9 (h 8 9 + nI 1)) by_ place (nI ho) (nI sz) (frA A) x10
    refine ⟨va_up (va_up (mvPut (mvPut (mvPut (mvPut h 8 9 (h 8 9 + nI 1)) 8 5 mo) 8 6 (nI ho)) 8 7 (nI sz)) 9 F) 10 G, mo, R + 1, ?_, CF_up (CF_up (CF_put (CF_put (CF_put (CF_put CF_refl rfl) rfl) rfl) rfl) rfl) rfl, ⟨⟨rfl, m3, rfl, rfl, ?_, by omega, by omega, hho, hsz, P1, m4⟩, ?_, ?_, hfm⟩, m1, m2, by omega, by omega⟩
    · refine av_ls (L := [.ref 8, mvRv (by_), .int (place), .int (nI (ho)), .int (nI (sz))]) (by cases by_ <;> rfl) ?_
      refine a_aloadV_1 rfl rfl ?_
      refine a_aload_0 rfl rfl ?_
      refine a_getv rfl rfl rfl (fun _ _ _ => rfl) ?_
      refine a_acmp rfl rfl rfl hby7 hlt7 (fun c_5 => ?_) (fun c_5 => ?_)
      · refine a_aload_0 rfl rfl ?_
        refine a_virt0 rfl rfl (e_forget) (Nat.le_of_ble_eq_true rfl) ⟨rfl, rfl, rfl, rfl⟩ rfl rfl rfl (Nat.le_of_ble_eq_true rfl) rfl rfl ?_
        exact A1
      · refine a_iload_3 rfl rfl ?_
        refine a_aload_0 rfl rfl ?_
        refine a_geti rfl rfl rfl (fun _ _ _ => rfl) ?_
        refine a_as (y := nI (ho0)) x3 ?_
        refine a_cmpN_ne rfl rfl rfl (by omega) (by omega) (fun c_13 => ?_) (fun c_13 => ?_)
        · refine a_aload_0 rfl rfl ?_
          refine a_virt0 rfl rfl (e_forget) (Nat.le_of_ble_eq_true rfl) ⟨rfl, rfl, rfl, rfl⟩ rfl rfl rfl (Nat.le_of_ble_eq_true rfl) rfl rfl ?_
          exact A1
        · refine a_iload_4 rfl rfl ?_
          refine a_aload_0 rfl rfl ?_
          refine a_geti rfl rfl rfl (fun _ _ _ => rfl) ?_
          refine a_as (y := nI (sz0)) x4 ?_
          refine a_cmpN_eq rfl rfl rfl (by omega) (by omega) (fun c_22 => False.elim (hS ⟨c_5, by omega, by omega⟩)) (fun _ => ?_)
          refine a_aload_0 rfl rfl ?_
          refine a_virt0 rfl rfl (e_forget) (Nat.le_of_ble_eq_true rfl) ⟨rfl, rfl, rfl, rfl⟩ rfl rfl rfl (Nat.le_of_ble_eq_true rfl) rfl rfl ?_
          exact A1
    · show h 8 9 + nI 1 = nI (R + 1)
      rw [x5]; exact nI_1 R
    · intro k hk
      obtain ⟨v, a1, a2, a3⟩ := hf k hk
      exact ⟨v, a1, by omega, fun q => by omega⟩
    · exact ltR_fr (fun p hp => by rw [va_up_ne _ _ (by omega), va_up_ne _ _ (by omega)]; exact (CF_put (CF_put (CF_put (CF_put CF_refl rfl) rfl) rfl) rfl : CF [8] h (mvPut (mvPut (mvPut (mvPut h 8 9 (h 8 9 + nI 1)) 8 5 mo) 8 6 (nI ho)) 8 7 (nI sz))) p (by simp; omega)) hby
end LK
