/-! HOW MANY ROOMS, AND THE LARGEST -/
theorem nb_ex {p : Nat → Bool} {j : Nat} (hj : j < 30) (b : nb p j = true) : ∃ e, e < 30 ∧ p e = true ∧ nb (fun i => decide (i = j)) e = true ∧ nb (fun i => decide (i = e)) j = true := by
  unfold nb at b
  simp only [Bool.or_eq_true, Bool.and_eq_true, decide_eq_true_eq] at b
  rcases b with ((⟨q, d⟩ | ⟨q, d⟩) | ⟨q, d⟩) | ⟨q, d⟩
  · refine ⟨_, by omega, d, ?_, ?_⟩ <;> unfold nb <;> simp <;> omega
  · refine ⟨_, by omega, d, ?_, ?_⟩ <;> unfold nb <;> simp <;> omega
  · refine ⟨_, by omega, d, ?_, ?_⟩ <;> unfold nb <;> simp <;> omega
  · refine ⟨_, by omega, d, ?_, ?_⟩ <;> unfold nb <;> simp <;> omega
theorem nb_at {p : Nat → Bool} {j e : Nat} (hj : j < 30) (hp : p e = true) (h : nb (fun i => decide (i = e)) j = true) : nb p j = true :=
  nb_mono hj (fun i _ q => by simp at q; rw [q]; exact hp) h
/-- p is all of some rooms within op -/
def clo (op p : Nat → Bool) : Prop := (∀ j, j < 30 → p j = true → op j = true) ∧ ∀ j, j < 30 → nb p j = true → op j = true → p j = true
theorem clo_grow {op p s : Nat → Bool} (hc : clo op p) (hs : ∀ j, j < 30 → s j = true → p j = true) (i : Nat) : ∀ j, j < 30 → grow p s i j = grow op s i j ∧ (grow op s i j = true → p j = true) := by
  induction i with
  | zero =>
    intro j hj
    show (s j && p j) = (s j && op j) ∧ ((s j && op j) = true → p j = true)
    cases c : s j
    · simp
    · have a := hs j hj c
      rw [a, hc.1 j hj a]
      simp
  | succ i ih =>
    intro j hj
    have e := nb_ext (fun i hi => (ih i hi).1) j hj
    have key : (grow op s i j || nb (grow op s i) j) = true → op j = true → p j = true := fun q o => by
      cases c : grow op s i j
      · rw [c, Bool.false_or] at q
        exact hc.2 j hj (nb_mono hj (fun k hk w => (ih k hk).2 w) q) o
      · exact (ih j hj).2 c
    show ((grow p s i j || nb (grow p s i) j) && p j) = ((grow op s i j || nb (grow op s i) j) && op j) ∧ (((grow op s i j || nb (grow op s i) j) && op j) = true → p j = true)
    rw [(ih j hj).1, e]
    constructor
    · cases c : (grow op s i j || nb (grow op s i) j)
      · simp
      · rw [Bool.true_and, Bool.true_and]
        cases d : op j
        · cases f : p j
          · rfl
          · exact absurd (hc.1 j hj f) (by rw [d]; decide)
        · exact key c d
    · intro q
      rw [Bool.and_eq_true] at q
      exact key q.1 q.2
theorem grow_clo (op s : Nat → Bool) : clo op (grow op s 30) := by
  refine ⟨fun j _ q => grow_th q, fun j hj q o => ?_⟩
  have st : grow op s 31 j = grow op s 30 j := by
    have e := grow_29 op s
    rw [grow_stay e 31 (by omega) j hj, grow_stay e 30 (by omega) j hj]
  rw [← st]
  show ((grow op s 30 j || nb (grow op s 30) j) && op j) = true
  rw [q, o]
  simp
theorem clo_diff {op p q : Nat → Bool} (hp : clo op p) (hq : clo op q) : clo op (fun j => p j && !q j) := by
  refine ⟨fun j hj w => hp.1 j hj (by simp at w; exact w.1), fun j hj w o => ?_⟩
  obtain ⟨e, he, w1, w2, w3⟩ := nb_ex hj w
  simp only [Bool.and_eq_true, Bool.not_eq_true'] at w1
  have a : p j = true := hp.2 j hj (nb_at hj w1.1 w3) o
  have b : q j = false := by
    cases c : q j
    · rfl
    · have := hq.2 e he (nb_at he c w2) (hp.1 e he w1.1)
      rw [w1.2] at this
      exact absurd this (by decide)
  simp [a, b]
def rmL (op : Nat → Bool) : Nat → (Nat → Bool) × Nat × Nat
  | 0 => (op, 0, 0)
  | c + 1 => if (rmL op c).1 c = true then (fun j => (rmL op c).1 j && !rmS op (nI c) j, (rmL op c).2.1 + 1, if (rmL op c).2.2 < cnt 30 (rmS op (nI c)) then cnt 30 (rmS op (nI c)) else (rmL op c).2.2) else rmL op c
theorem rmL_T {op : Nat → Bool} {c : Nat} (h : (rmL op c).1 c = true) : rmL op (c + 1) = (fun j => (rmL op c).1 j && !rmS op (nI c) j, (rmL op c).2.1 + 1, if (rmL op c).2.2 < cnt 30 (rmS op (nI c)) then cnt 30 (rmS op (nI c)) else (rmL op c).2.2) := by rw [rmL, if_pos h]
theorem rmL_F {op : Nat → Bool} {c : Nat} (h : ¬ (rmL op c).1 c = true) : rmL op (c + 1) = rmL op c := by rw [rmL, if_neg h]
theorem clo_ext {op p q : Nat → Bool} (h : ∀ j, j < 30 → p j = q j) (hp : clo op p) : clo op q :=
  ⟨fun j hj w => hp.1 j hj (by rw [h j hj]; exact w), fun j hj w o => by rw [← h j hj]; exact hp.2 j hj (by rw [nb_ext h j hj]; exact w) o⟩
theorem rmS_clo (op : Nat → Bool) (x : Int32) : clo op (rmS op x) := clo_ext (fun j hj => (bs_inj (by omega) (rmS_grow op x) j hj).symm) (grow_clo op (sgl x))
theorem rmL_clo (op : Nat → Bool) (c : Nat) : clo op (rmL op c).1 ∧ (rmL op c).2.1 ≤ c ∧ (rmL op c).2.2 ≤ 30 := by
  induction c with
  | zero => exact ⟨⟨fun _ _ q => q, fun _ _ _ q => q⟩, Nat.le_refl _, Nat.zero_le _⟩
  | succ c ih =>
    by_cases q : (rmL op c).1 c = true
    · rw [rmL_T q]
      refine ⟨clo_diff ih.1 (rmS_clo op (nI c)), by have := ih.2.1; show (rmL op c).2.1 + 1 ≤ c + 1; omega, ?_⟩
      show (if (rmL op c).2.2 < cnt 30 (rmS op (nI c)) then cnt 30 (rmS op (nI c)) else (rmL op c).2.2) ≤ 30
      split
      · exact cnt_le _ _
      · exact ih.2.2
    · rw [rmL_F q]
      exact ⟨ih.1, by have := ih.2.1; omega, ih.2.2⟩
def rmsV (op : Nat → Bool) (w : Int32) : Int32 := if 0 ≤ w.toInt ∧ w.toInt ≤ 1 then nI (if w = 0 then (rmL op 30).2.1 else (rmL op 30).2.2) else -1
theorem reach_in (op : Nat → Bool) (c : Nat) (hc : c < 30) (h : (rmL op c).1 c = true) : bsI 30 (grow (rmL op c).1 (fun j => decide (j = c)) 30) = bsI 30 (rmS op (nI c)) := by
  rw [rmS_grow]
  refine bs_ext fun j hj => ?_
  rw [((clo_grow (s := fun j => decide (j = c)) (rmL_clo op c).1 (fun j _ q => by simp at q; rw [q]; exact h) 30) j hj).1]
  exact grow_p (fun j hj => decide_eq_decide.mpr ⟨fun q => by rw [q], fun q => ((nI_eq (by omega) (by omega)).mp q).symm⟩) j hj
theorem mx_nI {a b : Nat} (ha : a < 2 ^ 31) (hb : b < 2 ^ 31) : (if nI a < nI b then nI b else nI a) = nI (if a < b then b else a) := by
  by_cases q : a < b
  · rw [if_pos q, if_pos ((nI_ltI ha hb).mpr q)]
  · rw [if_neg q, if_neg (fun e => q ((nI_ltI ha hb).mp e))]
section RA
variable {L t : Nat} {lt rt rp : Option Nat} {sw : Bool} {h : Nat → Nat → Int32} {gl : Nat → Nat → Int64}
theorem l_crooms (op : Nat → Bool) (w : Int32) (hw : 0 ≤ w.toInt ∧ w.toInt ≤ 1) (m : Nat) : ∀ (c : Nat) (y : Value), c + m = 30 → avA 2 134 26 [.ref 7, .int w, .int (nI (rmL op c).2.1), .int (nI (rmL op c).2.2), .int (bsI 30 (rmL op c).1), .int (nI c), y] [] (sX L t lt rt rp sw h gl) (some (.int (rmsV op w)), sX L t lt rt rp sw h gl) := by
  induction m with
  | zero =>
    intro c y hc
    have e : c = 30 := by omega
    subst e
    unfold rmsV
    rw [if_pos hw]
    refine a_iload_5 rfl rfl ?_
    refine a_bipush (v := (nI 30)) rfl rfl rfl ?_
    refine a_cmpN_ge rfl rfl rfl (by omega) (by omega) (fun _ => ?_) (fun c_30 => absurd c_30 (by decide))
    refine a_iload_1 rfl rfl ?_
    refine a_if_ne rfl rfl rfl (fun c_83 => ?_) (fun c_83 => ?_)
    · refine a_iload_3 rfl rfl ?_
      refine av_to (a_iret rfl rfl) ?_
      first | rw [if_pos c_83] | rw [if_neg c_83]
    · refine a_iload_2 rfl rfl ?_
      refine a_goto rfl rfl ?_
      refine av_to (a_iret rfl rfl) ?_
      first | rw [if_pos c_83] | rw [if_neg c_83]
  | succ m ih =>
    intro c y hc
    have hb := rmL_clo op c
    have hk := cnt_le 30 (rmS op (nI c))
    refine a_iload_5 rfl rfl ?_
    refine a_bipush (v := (nI 30)) rfl rfl rfl ?_
    refine a_cmpN_ge rfl rfl rfl (by omega) (by omega) (fun c_30 => False.elim (by omega)) (fun _ => ?_)
    refine a_iload_4 rfl rfl ?_
    refine a_iload_5 rfl rfl ?_
    refine a_statI rfl rfl (e_has _ c (by omega)) (Nat.le_of_ble_eq_true rfl) ⟨rfl, rfl, rfl⟩ rfl rfl rfl (Nat.le_of_ble_eq_true rfl) rfl ?_
    refine a_ifb_eq rfl rfl rfl (fun c_40 => ?_) (fun c_40 => ?_)
    · refine a_iinc_5 rfl rfl (nI_inc _ _) rfl ?_
      refine a_goto rfl rfl ?_
      have e := fun y => ih (c + 1) y (by omega)
      first | (rw [rmL_T hl] at e; exact e _) | (rw [rmL_F (fun q => c_40 (by rw [tb_bs (by omega)]; simp [q]; omega))] at e; exact e _)
    · have hl : (rmL op c).1 c = true := by rw [tb_bs (by omega)] at c_40; simp at c_40; exact c_40.2
      refine a_iconst (v := (nI 1)) rfl rfl rfl ?_
      refine a_iload_5 rfl rfl ?_
      refine a_ishl rfl rfl ?_
      refine a_as (y := _) (bs_one (n := 30) (by omega) (by omega)) ?_
      refine a_iload_4 rfl rfl ?_
      refine a_statI rfl rfl (e_reach _ _) (Nat.le_of_ble_eq_true rfl) ⟨rfl, rfl, rfl⟩ rfl rfl rfl (Nat.le_of_ble_eq_true rfl) rfl ?_
      refine a_as (y := _) (reach_in op c (by omega) hl) ?_
      refine a_istore_6 rfl rfl rfl ?_
      refine a_iload_4 rfl rfl ?_
      refine a_iload_6 rfl rfl ?_
      refine a_iconst (v := (-1)) rfl rfl rfl ?_
      refine a_ixor rfl rfl ?_
      refine a_iand rfl rfl ?_
      refine a_as (y := _) (bs_diff (by omega) _ _) ?_
      refine a_istore_4 rfl rfl rfl ?_
      refine a_iinc_2 rfl rfl (nI_inc _ _) rfl ?_
      refine a_iload_3 rfl rfl ?_
      refine a_iload_6 rfl rfl ?_
      refine a_statI rfl rfl (e_bitCountS (by omega) (rmS op (nI c))) (Nat.le_of_ble_eq_true rfl) ⟨rfl, rfl, rfl⟩ rfl rfl rfl (Nat.le_of_ble_eq_true rfl) rfl ?_
      refine a_max rfl rfl (Nat.le_of_ble_eq_true rfl) ?_
      refine a_as (y := nI (_)) (mx_nI (by omega) (by omega)) ?_
      refine a_istore_3 rfl rfl rfl ?_
      refine a_iinc_5 rfl rfl (nI_inc _ _) rfl ?_
      refine a_goto rfl rfl ?_
      have e := fun y => ih (c + 1) y (by omega)
      first | (rw [rmL_T hl] at e; exact e _) | (rw [rmL_F (fun q => c_40 (by rw [tb_bs (by omega)]; simp [q]; omega))] at e; exact e _)
theorem c_rooms (op : Nat → Bool) (hop : h 9 0 = bsI 30 op) (w : Int32) : avE 2 134 [.ref 7, .int w] (sX L t lt rt rp sw h gl) (some (.int (rmsV op w)), sX L t lt rt rp sw h gl) := by
  by_cases hw : 0 ≤ w.toInt ∧ w.toInt ≤ 1
  · show avA _ 134 0 [.ref 7, .int (w), mvU, mvU, mvU, mvU, mvU] [] _ _
    refine a_iload_1 rfl rfl ?_
    refine a_iconst (v := (nI 1)) rfl rfl rfl ?_
    refine a_statI rfl rfl (e_isWithin w 1 (by omega)) (Nat.le_of_ble_eq_true rfl) ⟨rfl, rfl, rfl⟩ rfl rfl rfl (Nat.le_of_ble_eq_true rfl) rfl ?_
    refine a_ifb_ne rfl rfl rfl (fun _ => ?_) (fun c_5 => by first | exact absurd hw c_5 | exact absurd c_5 hw)
    refine a_iconst (v := (nI 0)) rfl rfl rfl ?_
    refine a_istore_2 rfl rfl rfl ?_
    refine a_iconst (v := (nI 0)) rfl rfl rfl ?_
    refine a_istore_3 rfl rfl rfl ?_
    refine a_aload_0 rfl rfl ?_
    refine a_getr rfl rfl rfl (fun _ _ _ => rfl) rfl ?_
    refine a_geti rfl rfl rfl (fun _ _ _ => rfl) ?_
    refine a_as (y := _) hop ?_
    refine a_istore_4 rfl rfl rfl ?_
    refine a_iconst (v := (nI 0)) rfl rfl rfl ?_
    refine a_istore_5 rfl rfl rfl ?_
    exact l_crooms op w hw 30 0 _ rfl
  · unfold rmsV
    rw [if_neg hw]
    show avA _ 134 0 [.ref 7, .int (w), mvU, mvU, mvU, mvU, mvU] [] _ _
    refine a_iload_1 rfl rfl ?_
    refine a_iconst (v := (nI 1)) rfl rfl rfl ?_
    refine a_statI rfl rfl (e_isWithin w 1 (by omega)) (Nat.le_of_ble_eq_true rfl) ⟨rfl, rfl, rfl⟩ rfl rfl rfl (Nat.le_of_ble_eq_true rfl) rfl ?_
    refine a_ifb_ne rfl rfl rfl (fun c_5 => by first | exact absurd c_5 hw | exact absurd hw c_5) (fun _ => ?_)
    refine a_iconst (v := (-1)) rfl rfl rfl ?_
    exact a_iret rfl rfl
theorem l_rrooms (op : Nat → Bool) (w : Int32) (hw : 0 ≤ w.toInt ∧ w.toInt ≤ 1) (m : Nat) : ∀ (c : Nat) (y : Value) (h : Nat → Nat → Int32), frA (h 82) = op → c + m = 30 → ∃ G, avA 6 292 24 [.ref 81, .int w, .int (bsI 30 (rmL op c).1), .int (nI (rmL op c).2.1), .int (nI (rmL op c).2.2), .int (nI c), y] [] (sX L t lt rt rp sw h gl) (some (.int (rmsV op w)), sX L t lt rt rp sw (va_up h 91 G) gl) := by
  induction m with
  | zero =>
    intro c y h hop hc
    have e : c = 30 := by omega
    subst e
    unfold rmsV
    rw [if_pos hw]
    refine ⟨h 91, ?_⟩
    rw [up_id]
    refine a_iload_5 rfl rfl ?_
    refine a_bipush (v := (nI 30)) rfl rfl rfl ?_
    refine a_cmpN_ge rfl rfl rfl (by omega) (by omega) (fun _ => ?_) (fun c_28 => absurd c_28 (by decide))
    refine a_iload_1 rfl rfl ?_
    refine a_if_ne rfl rfl rfl (fun c_90 => ?_) (fun c_90 => ?_)
    · refine a_iload_4 rfl rfl ?_
      refine av_to (a_iret rfl rfl) ?_
      first | rw [if_pos c_90] | rw [if_neg c_90]
    · refine a_iload_3 rfl rfl ?_
      refine a_goto rfl rfl ?_
      refine av_to (a_iret rfl rfl) ?_
      first | rw [if_pos c_90] | rw [if_neg c_90]
  | succ m ih =>
    intro c y h hop hc
    have hb := rmL_clo op c
    have hk := cnt_le 30 (rmS op (nI c))
    by_cases hl : (rmL op c).1 c = true
    · obtain ⟨G, e⟩ := ih (c + 1) (.int (bsI 30 (rmS op (nI c)))) (va_up h 91 (rw1 30 (farA (h 82) (nI c)) (h 91))) hop (by omega)
      rw [rmL_T hl, bx_uu] at e
      refine ⟨G, ?_⟩
      have C := r_roomOf (L := L) (t := t) (lt := lt) (rt := rt) (rp := rp) (sw := sw) (h := h) (gl := gl) (nI c)
      rw [hop] at C
      refine a_iload_5 rfl rfl ?_
      refine a_bipush (v := (nI 30)) rfl rfl rfl ?_
      refine a_cmpN_ge rfl rfl rfl (by omega) (by omega) (fun c_28 => False.elim (by omega)) (fun _ => ?_)
      refine a_iload_2 rfl rfl ?_
      refine a_iload_5 rfl rfl ?_
      refine a_statI rfl rfl (r_has _ c (by omega)) (Nat.le_of_ble_eq_true rfl) ⟨rfl, rfl, rfl⟩ rfl rfl rfl (Nat.le_of_ble_eq_true rfl) rfl ?_
      refine a_ifb_ne rfl rfl rfl (fun _ => ?_) (fun c_37 => by first | exact absurd (by rw [tb_bs (by omega)]; simp [hl]; omega) c_37 | exact absurd c_37 (by rw [tb_bs (by omega)]; simp [hl]; omega))
      refine a_aload_0 rfl rfl ?_
      refine a_iload_5 rfl rfl ?_
      refine a_virtI rfl rfl (C) (Nat.le_of_ble_eq_true rfl) ⟨rfl, rfl, rfl, rfl⟩ rfl rfl rfl (Nat.le_of_ble_eq_true rfl) rfl rfl ?_
      refine a_istore_6 rfl rfl rfl ?_
      refine a_iload_2 rfl rfl ?_
      refine a_iload_6 rfl rfl ?_
      refine a_iconst (v := (-1)) rfl rfl rfl ?_
      refine a_ixor rfl rfl ?_
      refine a_iand rfl rfl ?_
      refine a_as (y := _) (bs_diff (by omega) _ _) ?_
      refine a_istore_2 rfl rfl rfl ?_
      refine a_iinc_3 rfl rfl (nI_inc _ _) rfl ?_
      refine a_iload_6 rfl rfl ?_
      refine a_statI rfl rfl (r_bitsS (by omega) (rmS op (nI c))) (Nat.le_of_ble_eq_true rfl) ⟨rfl, rfl, rfl⟩ rfl rfl rfl (Nat.le_of_ble_eq_true rfl) rfl ?_
      refine a_iload_4 rfl rfl ?_
      refine a_cmpN_le rfl rfl rfl (by omega) (by omega) (fun c_68 => ?_) (fun c_68 => ?_)
      · refine a_iload_4 rfl rfl ?_
        refine a_istore_4 rfl rfl rfl ?_
        refine a_iinc_5 rfl rfl (nI_inc _ _) rfl ?_
        refine a_goto rfl rfl ?_
        first | (rw [if_pos (by omega)] at e; exact e) | (rw [if_neg (by omega)] at e; exact e)
      · refine a_iload_6 rfl rfl ?_
        refine a_statI rfl rfl (r_bitsS (by omega) (rmS op (nI c))) (Nat.le_of_ble_eq_true rfl) ⟨rfl, rfl, rfl⟩ rfl rfl rfl (Nat.le_of_ble_eq_true rfl) rfl ?_
        refine a_goto rfl rfl ?_
        refine a_istore_4 rfl rfl rfl ?_
        refine a_iinc_5 rfl rfl (nI_inc _ _) rfl ?_
        refine a_goto rfl rfl ?_
        first | (rw [if_pos (by omega)] at e; exact e) | (rw [if_neg (by omega)] at e; exact e)
    · obtain ⟨G, e⟩ := ih (c + 1) y h hop (by omega)
      rw [rmL_F hl] at e
      refine ⟨G, ?_⟩
      refine a_iload_5 rfl rfl ?_
      refine a_bipush (v := (nI 30)) rfl rfl rfl ?_
      refine a_cmpN_ge rfl rfl rfl (by omega) (by omega) (fun c_28 => False.elim (by omega)) (fun _ => ?_)
      refine a_iload_2 rfl rfl ?_
      refine a_iload_5 rfl rfl ?_
      refine a_statI rfl rfl (r_has _ c (by omega)) (Nat.le_of_ble_eq_true rfl) ⟨rfl, rfl, rfl⟩ rfl rfl rfl (Nat.le_of_ble_eq_true rfl) rfl ?_
      refine a_ifb_ne rfl rfl rfl (fun c_37 => False.elim (by rw [tb_bs (by omega)] at c_37; simp at c_37; exact hl c_37.2)) (fun _ => ?_)
      refine a_goto rfl rfl ?_
      refine a_iinc_5 rfl rfl (nI_inc _ _) rfl ?_
      refine a_goto rfl rfl ?_
      exact e
theorem r_rooms (w : Int32) : ∃ G, avE 6 292 [.ref 81, .int w] (sX L t lt rt rp sw h gl) (some (.int (rmsV (frA (h 82)) w)), sX L t lt rt rp sw (va_up h 91 G) gl) := by
  by_cases hw : 0 ≤ w.toInt ∧ w.toInt ≤ 1
  · obtain ⟨G, e⟩ := l_rrooms (L := L) (t := t) (lt := lt) (rt := rt) (rp := rp) (sw := sw) (gl := gl) (frA (h 82)) w hw 30 0 mvU h rfl rfl
    refine ⟨G, ?_⟩
    show avA _ 292 0 [.ref 81, .int (w), mvU, mvU, mvU, mvU, mvU] [] _ _
    refine a_iload_1 rfl rfl ?_
    refine a_iconst (v := (nI 0)) rfl rfl rfl ?_
    refine a_iconst (v := (nI 1)) rfl rfl rfl ?_
    refine a_statI rfl rfl (r_isIn w (nI 0) (nI 1)) (Nat.le_of_ble_eq_true rfl) ⟨rfl, rfl, rfl⟩ rfl rfl rfl (Nat.le_of_ble_eq_true rfl) rfl ?_
    refine a_ifb_ne rfl rfl rfl (fun _ => ?_) (fun c_6 => by first | exact absurd hw c_6 | exact absurd c_6 hw)
    refine a_aload_0 rfl rfl ?_
    refine a_virtI rfl rfl (r_free) (Nat.le_of_ble_eq_true rfl) ⟨rfl, rfl, rfl, rfl⟩ rfl rfl rfl (Nat.le_of_ble_eq_true rfl) rfl rfl ?_
    refine a_istore_2 rfl rfl rfl ?_
    refine a_iconst (v := (nI 0)) rfl rfl rfl ?_
    refine a_istore_3 rfl rfl rfl ?_
    refine a_iconst (v := (nI 0)) rfl rfl rfl ?_
    refine a_istore_4 rfl rfl rfl ?_
    refine a_iconst (v := (nI 0)) rfl rfl rfl ?_
    refine a_istore_5 rfl rfl rfl ?_
    exact e
  · unfold rmsV
    rw [if_neg hw]
    refine ⟨h 91, ?_⟩
    rw [up_id]
    show avA _ 292 0 [.ref 81, .int (w), mvU, mvU, mvU, mvU, mvU] [] _ _
    refine a_iload_1 rfl rfl ?_
    refine a_iconst (v := (nI 0)) rfl rfl rfl ?_
    refine a_iconst (v := (nI 1)) rfl rfl rfl ?_
    refine a_statI rfl rfl (r_isIn w (nI 0) (nI 1)) (Nat.le_of_ble_eq_true rfl) ⟨rfl, rfl, rfl⟩ rfl rfl rfl (Nat.le_of_ble_eq_true rfl) rfl ?_
    refine a_ifb_ne rfl rfl rfl (fun c_6 => by first | exact absurd c_6 hw | exact absurd hw c_6) (fun _ => ?_)
    refine a_iconst (v := (-1)) rfl rfl rfl ?_
    exact a_iret rfl rfl
end RA
