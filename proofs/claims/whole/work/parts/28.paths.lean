/-! STEPS, WAYS AND ROOMS -/
abbrev inC (c : Int32) : Prop := 0 ≤ c.toInt ∧ c.toInt < 30
def frF (op : Nat → Bool) (x : Int32) : Nat → Int32 := fk (grow op (sgl x)) 30
def btw (op : Nat → Bool) (a b : Int32) : Int32 := if inC a ∧ inC b then frF op a b.toInt.toNat else -1
theorem inC_nI {n : Nat} (h : n < 30) : inC (nI n) := by
  unfold inC
  rw [nI_toInt (by omega)]
  omega
theorem inC_of {c : Int32} (h : inC c) : ∃ n, n < 30 ∧ c = nI n := by
  obtain ⟨n, h1, h2, _⟩ := cell_of (m := 30) h.1 h.2
  exact ⟨n, h1, h2⟩
theorem btw_N (op : Nat → Bool) {a b : Nat} (ha : a < 30) (hb : b < 30) : btw op (nI a) (nI b) = frF op (nI a) b := by
  unfold btw
  rw [if_pos ⟨inC_nI ha, inC_nI hb⟩, nI_toInt (by omega)]
  rfl
theorem fk_none {g : Nat → Nat → Bool} {n c : Nat} (hn : n < 2 ^ 31) : fk g n c = -1 ↔ ∀ m, m < n → g m c = false := by
  induction n with
  | zero => exact ⟨fun _ m hm => by omega, fun _ => rfl⟩
  | succ n ih =>
    constructor
    · intro h m hm
      have q := fk_neg (by omega) h
      by_cases e : m = n
      · subst e; exact q.1
      · exact (ih (by omega)).mp q.2 m (by omega)
    · intro h
      rw [fk, if_neg (fun q => by rw [h n (by omega)] at q; exact absurd q.1 (by decide))]
      exact (ih (by omega)).mpr fun m hm => h m (by omega)
/-- either not reached, or at a number of steps below n -/
theorem fk_cases {g : Nat → Nat → Bool} {n c : Nat} (hn : n < 2 ^ 31) : fk g n c = -1 ∨ ∃ k, k < n ∧ fk g n c = nI k ∧ g k c = true ∧ ∀ m, m < k → g m c = false := by
  induction n with
  | zero => exact Or.inl rfl
  | succ n ih =>
    rw [fk]
    by_cases q : g n c = true ∧ fk g n c = -1
    · rw [if_pos q]
      exact Or.inr ⟨n, by omega, rfl, q.1, (fk_none (by omega)).mp q.2⟩
    · rw [if_neg q]
      rcases ih (by omega) with w | ⟨k, hk, e, g1, g2⟩
      · exact Or.inl w
      · exact Or.inr ⟨k, by omega, e, g1, g2⟩
theorem fk_first {g : Nat → Nat → Bool} {n c k : Nat} (hn : n < 2 ^ 31) (hk : k < n) (h1 : g k c = true) (h2 : ∀ m, m < k → g m c = false) : fk g n c = nI k := by
  rcases fk_cases (g := g) (c := c) hn with w | ⟨k', hk', e, g1, g2⟩
  · rw [(fk_none hn).mp w k hk] at h1
    exact absurd h1 (by decide)
  · rcases Nat.lt_trichotomy k k' with q | q | q
    · rw [g2 k q] at h1; exact absurd h1 (by decide)
    · rw [q]; exact e
    · rw [h2 k' q] at g1; exact absurd g1 (by decide)
theorem nI_ne_m1 {k : Nat} (hk : k < 2 ^ 31) : nI k ≠ -1 := by
  intro e
  have := congrArg Int32.toInt e
  rw [nI_toInt hk, show (-1 : Int32).toInt = -1 from by decide] at this
  omega
/-- a cell that is reached in k + 1 steps lies beside one that is reached in k -/
theorem nb_near {th p : Nat → Bool} {c k : Nat} (hc : c < 30) (hk : k + 1 < 30) (h : fk (grow th p) 30 c = nI (k + 1)) : ∃ e, e < 30 ∧ nb (fun i => decide (i = c)) e = true ∧ fk (grow th p) 30 e = nI k := by
  rcases fk_cases (g := grow th p) (n := 30) (c := c) (by omega) with w | ⟨k', hk', e, g1, g2⟩
  · rw [h] at w; exact absurd w (nI_ne_m1 (by omega))
  · have ek : k + 1 = k' := (nI_eq (by omega) (by omega)).mp (h.symm.trans e)
    subst ek
    have a := g2 k (by omega)
    have hth := grow_th g1
    have b : nb (grow th p k) c = true := by
      have : ((grow th p k c || nb (grow th p k) c) && th c) = true := g1
      rw [a] at this
      simpa [hth] using this
    have key : ∀ e, e < 30 → grow th p k e = true → nb (fun i => decide (i = c)) e = true → nb (fun i => decide (i = e)) c = true → ∃ e, e < 30 ∧ nb (fun i => decide (i = c)) e = true ∧ fk (grow th p) 30 e = nI k := by
      intro e he ge n1 n2
      refine ⟨e, he, n1, fk_first (by omega) (by omega) ge fun m hm => ?_⟩
      cases d : grow th p m e
      · rfl
      · have d2 : nb (grow th p m) c = true := nb_mono hc (fun i _ q => by simp at q; rw [q]; exact d) n2
        have d3 : grow th p (m + 1) c = true := by
          show ((grow th p m c || nb (grow th p m) c) && th c) = true
          rw [d2, hth]; simp
        rw [g2 (m + 1) (by omega)] at d3
        exact absurd d3 (by decide)
    unfold nb at b
    simp only [Bool.or_eq_true, Bool.and_eq_true, decide_eq_true_eq] at b
    rcases b with ((⟨q, d⟩ | ⟨q, d⟩) | ⟨q, d⟩) | ⟨q, d⟩
    · refine key _ (by omega) d ?_ ?_
      · unfold nb; simp <;> omega
      · unfold nb; simp <;> omega
    · refine key _ (by omega) d ?_ ?_
      · unfold nb; simp <;> omega
      · unfold nb; simp <;> omega
    · refine key _ (by omega) d ?_ ?_
      · unfold nb; simp <;> omega
      · unfold nb; simp <;> omega
    · refine key _ (by omega) d ?_ ?_
      · unfold nb; simp <;> omega
      · unfold nb; simp <;> omega
/-- the lowest cell beside c that is nearer, by a row X -/
def nxP (X : Nat → Int32) (c : Nat) (v : Int32) : Nat → Bool := fun e => nb (fun i => decide (i = c)) e && decide (X e = v)
theorem up_2 {α : Type} (h : Nat → α) (o p : Nat) (F G F' G' : α) (hop : o ≠ p) : va_up (va_up (va_up (va_up h o F) p G) o F') p G' = va_up (va_up h o F') p G' := by
  funext j
  unfold va_up
  by_cases a : j = p
  · simp [a]
  · by_cases b : j = o
    · simp [b]
    · simp [a, b]
section RW
variable {L t : Nat} {lt rt rp : Option Nat} {sw : Bool} {h : Nat → Nat → Int32} {gl : Nat → Nat → Int64}
theorem e_between (a b : Int32) (op : Nat → Bool) (hP : rPth op (h 9) (h 10)) : ∃ F G, avE 2 92 [.ref 9, .int a, .int b] (sX L t lt rt rp sw h gl) (some (.int (btw op a b)), sX L t lt rt rp sw (va_up (va_up h 9 F) 10 G) gl) ∧ rPth op F G := by
  by_cases ha : inC a
  · by_cases hb : inC b
    · obtain ⟨x, hx, rfl⟩ := inC_of ha
      obtain ⟨y, hy, rfl⟩ := inC_of hb
      obtain ⟨F, G, C, hFG, hG⟩ := e_measure (L := L) (t := t) (lt := lt) (rt := rt) (rp := rp) (sw := sw) (gl := gl) x hx op hP
      refine ⟨F, G, ?_, hFG⟩
      rw [btw_N op hx hy]
      show avA _ 92 0 [.ref 9, .int (nI (x)), .int (nI (y))] [] _ _
      refine a_iload_1 rfl rfl ?_
      refine a_statI rfl rfl (e_isCell (nI x)) (Nat.le_of_ble_eq_true rfl) ⟨rfl, rfl, rfl⟩ rfl rfl rfl (Nat.le_of_ble_eq_true rfl) rfl ?_
      refine a_ifb_eq rfl rfl rfl (fun c_4 => by first | exact absurd c_4 (not_not_intro ha) | exact absurd (not_not_intro ha) c_4) (fun _ => ?_)
      refine a_iload_2 rfl rfl ?_
      refine a_statI rfl rfl (e_isCell (nI y)) (Nat.le_of_ble_eq_true rfl) ⟨rfl, rfl, rfl⟩ rfl rfl rfl (Nat.le_of_ble_eq_true rfl) rfl ?_
      refine a_ifb_ne rfl rfl rfl (fun _ => ?_) (fun c_11 => by first | exact absurd hb c_11 | exact absurd c_11 hb)
      refine a_aload_0 rfl rfl ?_
      refine a_iload_1 rfl rfl ?_
      refine a_virt0 rfl rfl (C) (Nat.le_of_ble_eq_true rfl) ⟨rfl, rfl, rfl, rfl⟩ rfl rfl rfl (Nat.le_of_ble_eq_true rfl) rfl rfl ?_
      refine a_aload_0 rfl rfl ?_
      refine a_getr rfl rfl rfl (fun _ _ _ => rfl) rfl ?_
      refine a_iload_1 rfl rfl ?_
      refine a_bipush (v := (nI 30)) rfl rfl rfl ?_
      refine a_imulN rfl rfl ?_
      refine a_iload_2 rfl rfl ?_
      refine a_iaddN rfl rfl ?_
      refine a_iald rfl rfl (Or.inl rfl) rfl (by omega) (by decide) ?_
      refine a_as (y := _) (hG y hy) ?_
      exact a_iret rfl rfl
    · refine ⟨h 9, h 10, ?_, hP⟩
      rw [up_id, up_id, btw, if_neg (fun q => hb q.2)]
      show avA _ 92 0 [.ref 9, .int (a), .int (b)] [] _ _
      refine a_iload_1 rfl rfl ?_
      refine a_statI rfl rfl (e_isCell a) (Nat.le_of_ble_eq_true rfl) ⟨rfl, rfl, rfl⟩ rfl rfl rfl (Nat.le_of_ble_eq_true rfl) rfl ?_
      refine a_ifb_eq rfl rfl rfl (fun c_4 => by first | exact absurd c_4 (not_not_intro ha) | exact absurd (not_not_intro ha) c_4) (fun _ => ?_)
      refine a_iload_2 rfl rfl ?_
      refine a_statI rfl rfl (e_isCell b) (Nat.le_of_ble_eq_true rfl) ⟨rfl, rfl, rfl⟩ rfl rfl rfl (Nat.le_of_ble_eq_true rfl) rfl ?_
      refine a_ifb_ne rfl rfl rfl (fun c_11 => by first | exact absurd c_11 hb | exact absurd hb c_11) (fun _ => ?_)
      refine a_iconst (v := (-1)) rfl rfl rfl ?_
      exact a_iret rfl rfl
  · refine ⟨h 9, h 10, ?_, hP⟩
    rw [up_id, up_id, btw, if_neg (fun q => ha q.1)]
    show avA _ 92 0 [.ref 9, .int (a), .int (b)] [] _ _
    refine a_iload_1 rfl rfl ?_
    refine a_statI rfl rfl (e_isCell a) (Nat.le_of_ble_eq_true rfl) ⟨rfl, rfl, rfl⟩ rfl rfl rfl (Nat.le_of_ble_eq_true rfl) rfl ?_
    refine a_ifb_eq rfl rfl rfl (fun _ => ?_) (fun c_4 => by first | exact absurd ha c_4 | exact absurd c_4 ha)
    refine a_iconst (v := (-1)) rfl rfl rfl ?_
    exact a_iret rfl rfl
/-- nextTo: the lowest cell that is nearer -/
theorem l_nextTo (g c e : Nat) (hg : g < 30) (hc : c < 30) (op : Nat → Bool) (k : Nat) (hk : k < 30) (he : e < 30) (h1 : nxP (frF op (nI g)) c (nI k) e = true) (h2 : ∀ j, j < e → nxP (frF op (nI g)) c (nI k) j = false) (m : Nat) : ∀ (i : Nat) (h : Nat → Nat → Int32), rPth op (h 9) (h 10) → i + m = e → ∃ F G, avA 3 133 31 [.ref 9, .int (nI g), .int (nI c), .int (nI k), .int (bsI 30 (nb (fun i => decide (i = c)))), .int (nI i)] [] (sX L t lt rt rp sw h gl) (some (.int (nI e)), sX L t lt rt rp sw (va_up (va_up h 9 F) 10 G) gl) ∧ rPth op F G := by
  induction m with
  | zero =>
    intro i h hP hi
    have ei : i = e := by omega
    subst ei
    obtain ⟨F, G, C, hFG⟩ := e_between (L := L) (t := t) (lt := lt) (rt := rt) (rp := rp) (sw := sw) (gl := gl) (nI g) (nI i) op hP
    rw [btw_N op hg he] at C
    unfold nxP at h1
    simp only [Bool.and_eq_true, decide_eq_true_eq] at h1
    refine ⟨F, G, ?_, hFG⟩
    refine a_iload_5 rfl rfl ?_
    refine a_bipush (v := (nI 30)) rfl rfl rfl ?_
    refine a_cmpN_ge rfl rfl rfl (by omega) (by omega) (fun c_35 => False.elim (by omega)) (fun _ => ?_)
    refine a_iload_4 rfl rfl ?_
    refine a_iload_5 rfl rfl ?_
    refine a_statI rfl rfl (e_has _ i (by omega)) (Nat.le_of_ble_eq_true rfl) ⟨rfl, rfl, rfl⟩ rfl rfl rfl (Nat.le_of_ble_eq_true rfl) rfl ?_
    refine a_ifb_eq rfl rfl rfl (fun c_45 => False.elim (by rw [tb_bs (by omega)] at c_45; exact c_45 (by simp [he, h1.1]))) (fun _ => ?_)
    refine a_iload_3 rfl rfl ?_
    refine a_ifN_lt rfl rfl rfl (by omega) (fun c_49 => False.elim (c_49)) (fun _ => ?_)
    refine a_aload_0 rfl rfl ?_
    refine a_iload_1 rfl rfl ?_
    refine a_iload_5 rfl rfl ?_
    refine a_virtI rfl rfl (C) (Nat.le_of_ble_eq_true rfl) ⟨rfl, rfl, rfl, rfl⟩ rfl rfl rfl (Nat.le_of_ble_eq_true rfl) rfl rfl ?_
    refine a_iload_3 rfl rfl ?_
    refine a_cmp_ne rfl rfl rfl (fun c_60 => by first | exact absurd c_60 (not_not_intro h1.2) | exact absurd (not_not_intro h1.2) c_60) (fun _ => ?_)
    refine a_iload_5 rfl rfl ?_
    exact a_iret rfl rfl
  | succ m ih =>
    intro i h hP hi
    obtain ⟨F, G, C, hFG⟩ := e_between (L := L) (t := t) (lt := lt) (rt := rt) (rp := rp) (sw := sw) (gl := gl) (nI g) (nI i) op hP
    rw [btw_N op hg (by omega)] at C
    have n2 := h2 i (by omega)
    unfold nxP at n2
    by_cases q : nb (fun i => decide (i = c)) i = true
    · have n3 : ¬ frF op (nI g) i = nI k := fun w => by rw [q] at n2; simp [w] at n2
      obtain ⟨F', G', A, hFG'⟩ := ih (i + 1) (va_up (va_up h 9 F) 10 G) hFG (by omega)
      refine ⟨F', G', ?_, hFG'⟩
      refine a_iload_5 rfl rfl ?_
      refine a_bipush (v := (nI 30)) rfl rfl rfl ?_
      refine a_cmpN_ge rfl rfl rfl (by omega) (by omega) (fun c_35 => False.elim (by omega)) (fun _ => ?_)
      refine a_iload_4 rfl rfl ?_
      refine a_iload_5 rfl rfl ?_
      refine a_statI rfl rfl (e_has _ i (by omega)) (Nat.le_of_ble_eq_true rfl) ⟨rfl, rfl, rfl⟩ rfl rfl rfl (Nat.le_of_ble_eq_true rfl) rfl ?_
      refine a_ifb_eq rfl rfl rfl (fun c_45 => False.elim (by rw [tb_bs (by omega)] at c_45; exact c_45 (by simp [q]; omega))) (fun _ => ?_)
      refine a_iload_3 rfl rfl ?_
      refine a_ifN_lt rfl rfl rfl (by omega) (fun c_49 => False.elim (c_49)) (fun _ => ?_)
      refine a_aload_0 rfl rfl ?_
      refine a_iload_1 rfl rfl ?_
      refine a_iload_5 rfl rfl ?_
      refine a_virtI rfl rfl (C) (Nat.le_of_ble_eq_true rfl) ⟨rfl, rfl, rfl, rfl⟩ rfl rfl rfl (Nat.le_of_ble_eq_true rfl) rfl rfl ?_
      refine a_iload_3 rfl rfl ?_
      refine a_cmp_ne rfl rfl rfl (fun _ => ?_) (fun c_60 => by first | exact absurd n3 c_60 | exact absurd c_60 n3)
      refine a_iinc_5 rfl rfl (nI_inc _ _) rfl ?_
      refine a_goto rfl rfl ?_
      refine av_to A ?_
      rw [up_2 _ _ _ _ _ _ _ (by decide)]
    · obtain ⟨F', G', A, hFG'⟩ := ih (i + 1) h hP (by omega)
      refine ⟨F', G', ?_, hFG'⟩
      refine a_iload_5 rfl rfl ?_
      refine a_bipush (v := (nI 30)) rfl rfl rfl ?_
      refine a_cmpN_ge rfl rfl rfl (by omega) (by omega) (fun c_35 => False.elim (by omega)) (fun _ => ?_)
      refine a_iload_4 rfl rfl ?_
      refine a_iload_5 rfl rfl ?_
      refine a_statI rfl rfl (e_has _ i (by omega)) (Nat.le_of_ble_eq_true rfl) ⟨rfl, rfl, rfl⟩ rfl rfl rfl (Nat.le_of_ble_eq_true rfl) rfl ?_
      refine a_ifb_eq rfl rfl rfl (fun _ => ?_) (fun c_45 => False.elim (by rw [tb_bs (by omega)] at c_45; exact q (by simp at c_45; exact c_45.2)))
      refine a_iinc_5 rfl rfl (nI_inc _ _) rfl ?_
      refine a_goto rfl rfl ?_
      exact A
end RW
section RW2
variable {L t : Nat} {lt rt rp : Option Nat} {sw : Bool} {h : Nat → Nat → Int32} {gl : Nat → Nat → Int64}
theorem e_nextTo (g c e : Nat) (hg : g < 30) (hc : c < 30) (op : Nat → Bool) (k : Nat) (hk : k < 29) (he : e < 30) (hX : frF op (nI g) c = nI (k + 1)) (h1 : nxP (frF op (nI g)) c (nI k) e = true) (h2 : ∀ j, j < e → nxP (frF op (nI g)) c (nI k) j = false) (hP : rPth op (h 9) (h 10)) : ∃ F G, avE 3 133 [.ref 9, .int (nI g), .int (nI c)] (sX L t lt rt rp sw h gl) (some (.int (nI e)), sX L t lt rt rp sw (va_up (va_up h 9 F) 10 G) gl) ∧ rPth op F G := by
  obtain ⟨F, G, C, hFG⟩ := e_between (L := L) (t := t) (lt := lt) (rt := rt) (rp := rp) (sw := sw) (gl := gl) (nI g) (nI c) op hP
  rw [btw_N op hg hc, hX] at C
  obtain ⟨F', G', A, hFG'⟩ := l_nextTo (L := L) (t := t) (lt := lt) (rt := rt) (rp := rp) (sw := sw) (gl := gl) g c e hg hc op k (by omega) he h1 h2 e 0 (va_up (va_up h 9 F) 10 G) hFG (by omega)
  refine ⟨F', G', ?_, hFG'⟩
  show avA _ 133 0 [.ref 9, .int (nI (g)), .int (nI (c)), mvU, mvU, mvU] [] _ _
  refine a_aload_0 rfl rfl ?_
  refine a_iload_1 rfl rfl ?_
  refine a_iload_2 rfl rfl ?_
  refine a_virtI rfl rfl (C) (Nat.le_of_ble_eq_true rfl) ⟨rfl, rfl, rfl, rfl⟩ rfl rfl rfl (Nat.le_of_ble_eq_true rfl) rfl rfl ?_
  refine a_iconst (v := (nI 1)) rfl rfl rfl ?_
  refine a_isubN rfl rfl (by omega) ?_
  refine a_istore_3 rfl rfl rfl ?_
  refine a_iload_2 rfl rfl ?_
  refine a_statI rfl rfl (e_isCell (nI c)) (Nat.le_of_ble_eq_true rfl) ⟨rfl, rfl, rfl⟩ rfl rfl rfl (Nat.le_of_ble_eq_true rfl) rfl ?_
  refine a_ifb_eq rfl rfl rfl (fun c_13 => by first | exact absurd c_13 (not_not_intro (inC_nI hc)) | exact absurd (not_not_intro (inC_nI hc)) c_13) (fun _ => ?_)
  refine a_iconst (v := (nI 1)) rfl rfl rfl ?_
  refine a_iload_2 rfl rfl ?_
  refine a_ishl rfl rfl ?_
  refine a_as (y := _) (bs_one (n := 30) (by omega) hc) ?_
  refine a_statI rfl rfl (e_besides _) (Nat.le_of_ble_eq_true rfl) ⟨rfl, rfl, rfl⟩ rfl rfl rfl (Nat.le_of_ble_eq_true rfl) rfl ?_
  refine a_goto rfl rfl ?_
  refine a_istore_4 rfl rfl rfl ?_
  refine a_iconst (v := (nI 0)) rfl rfl rfl ?_
  refine a_istore_5 rfl rfl rfl ?_
  refine av_to A ?_
  rw [up_2 _ _ _ _ _ _ _ (by decide)]
theorem r_stepsOf (x : Int32) (y : Nat) (hy : y < 30) : avE 5 244 [.ref 81, .int x, .int (nI y)] (sX L t lt rt rp sw h gl) (some (.int (farA (h 82) x y)), sX L t lt rt rp sw (va_up h 91 (rw1 30 (farA (h 82) x) (h 91))) gl) := by
  show avA _ 244 0 [.ref 81, .int (x), .int (nI (y))] [] _ _
  refine a_aload_0 rfl rfl ?_
  refine a_iload_1 rfl rfl ?_
  refine a_virt0 rfl rfl (r_layFar x) (Nat.le_of_ble_eq_true rfl) ⟨rfl, rfl, rfl, rfl⟩ rfl rfl rfl (Nat.le_of_ble_eq_true rfl) rfl rfl ?_
  refine a_aload_0 rfl rfl ?_
  refine a_getr rfl rfl rfl (fun _ _ _ => rfl) rfl ?_
  refine a_iload_2 rfl rfl ?_
  refine a_iald rfl rfl (Or.inl rfl) rfl (by omega) (by decide) ?_
  refine a_as (y := _) (show _ = farA (h 82) x y from rw1_lt hy) ?_
  exact a_iret rfl rfl
theorem r_steps (a b : Int32) : ∃ G, avE 6 289 [.ref 81, .int a, .int b] (sX L t lt rt rp sw h gl) (some (.int (btw (frA (h 82)) a b)), sX L t lt rt rp sw (va_up h 91 G) gl) := by
  by_cases ha : inC a
  · by_cases hb : inC b
    · obtain ⟨y, hy, rfl⟩ := inC_of hb
      refine ⟨rw1 30 (farA (h 82) a) (h 91), ?_⟩
      show avA _ 289 0 [.ref 81, .int (a), .int (nI (y))] [] _ _
      refine a_iload_1 rfl rfl ?_
      refine a_statI rfl rfl (r_isCell a) (Nat.le_of_ble_eq_true rfl) ⟨rfl, rfl, rfl⟩ rfl rfl rfl (Nat.le_of_ble_eq_true rfl) rfl ?_
      refine a_ifb_eq rfl rfl rfl (fun c_4 => by first | exact absurd c_4 (not_not_intro ha) | exact absurd (not_not_intro ha) c_4) (fun _ => ?_)
      refine a_iload_2 rfl rfl ?_
      refine a_statI rfl rfl (r_isCell (nI y)) (Nat.le_of_ble_eq_true rfl) ⟨rfl, rfl, rfl⟩ rfl rfl rfl (Nat.le_of_ble_eq_true rfl) rfl ?_
      refine a_ifb_eq rfl rfl rfl (fun c_11 => by first | exact absurd c_11 (not_not_intro hb) | exact absurd (not_not_intro hb) c_11) (fun _ => ?_)
      refine a_aload_0 rfl rfl ?_
      refine a_iload_1 rfl rfl ?_
      refine a_iload_2 rfl rfl ?_
      refine a_virtI rfl rfl (r_stepsOf a y hy) (Nat.le_of_ble_eq_true rfl) ⟨rfl, rfl, rfl, rfl⟩ rfl rfl rfl (Nat.le_of_ble_eq_true rfl) rfl rfl ?_
      refine a_goto rfl rfl ?_
      refine av_to (a_iret rfl rfl) ?_
      unfold btw
      rw [if_pos ⟨ha, hb⟩, nI_toInt (by omega)]
      rfl
    · refine ⟨h 91, ?_⟩
      rw [up_id, btw, if_neg (fun q => hb q.2)]
      show avA _ 289 0 [.ref 81, .int (a), .int (b)] [] _ _
      refine a_iload_1 rfl rfl ?_
      refine a_statI rfl rfl (r_isCell a) (Nat.le_of_ble_eq_true rfl) ⟨rfl, rfl, rfl⟩ rfl rfl rfl (Nat.le_of_ble_eq_true rfl) rfl ?_
      refine a_ifb_eq rfl rfl rfl (fun c_4 => by first | exact absurd c_4 (not_not_intro ha) | exact absurd (not_not_intro ha) c_4) (fun _ => ?_)
      refine a_iload_2 rfl rfl ?_
      refine a_statI rfl rfl (r_isCell b) (Nat.le_of_ble_eq_true rfl) ⟨rfl, rfl, rfl⟩ rfl rfl rfl (Nat.le_of_ble_eq_true rfl) rfl ?_
      refine a_ifb_eq rfl rfl rfl (fun _ => ?_) (fun c_11 => by first | exact absurd hb c_11 | exact absurd c_11 hb)
      refine a_iconst (v := (-1)) rfl rfl rfl ?_
      exact a_iret rfl rfl
  · refine ⟨h 91, ?_⟩
    rw [up_id, btw, if_neg (fun q => ha q.1)]
    show avA _ 289 0 [.ref 81, .int (a), .int (b)] [] _ _
    refine a_iload_1 rfl rfl ?_
    refine a_statI rfl rfl (r_isCell a) (Nat.le_of_ble_eq_true rfl) ⟨rfl, rfl, rfl⟩ rfl rfl rfl (Nat.le_of_ble_eq_true rfl) rfl ?_
    refine a_ifb_eq rfl rfl rfl (fun _ => ?_) (fun c_4 => by first | exact absurd ha c_4 | exact absurd c_4 ha)
    refine a_iconst (v := (-1)) rfl rfl rfl ?_
    exact a_iret rfl rfl
/-- the way's cells: from a, i steps on -/
def wyP (X : Nat → Int32) (a : Nat) : Nat → Nat → Prop
  | 0, c => c = a
  | i + 1, c => ∃ b, wyP X a i b ∧ c < 30 ∧ nxP X b (X b - 1) c = true ∧ ∀ j, j < c → nxP X b (X b - 1) j = false
theorem wy_ex (op : Nat → Bool) (g a n : Nat) (hg : g < 30) (ha : a < 30) (hn : n < 30) (hX : frF op (nI g) a = nI n) : ∀ i, i ≤ n → ∃ c, c < 30 ∧ wyP (frF op (nI g)) a i c ∧ frF op (nI g) c = nI (n - i) := by
  intro i
  induction i with
  | zero => intro _; exact ⟨a, ha, rfl, hX⟩
  | succ i ih =>
    intro hi
    obtain ⟨b, hb, w, e⟩ := ih (by omega)
    have e1 : frF op (nI g) b = nI ((n - i - 1) + 1) := by rw [e]; congr 1; omega
    obtain ⟨c0, hc0, n1, n2⟩ := nb_near hb (by omega) e1
    have ev : frF op (nI g) b - 1 = nI (n - i - 1) := by rw [e1]; exact nI_pred _
    obtain ⟨c, hc, q1, q2⟩ := bs_least (n := 30) (p := nxP (frF op (nI g)) b (frF op (nI g) b - 1)) ⟨c0, hc0, by unfold nxP; rw [n1, ev]; simp; exact n2⟩
    refine ⟨c, hc, ⟨b, w, hc, q1, q2⟩, ?_⟩
    unfold nxP at q1
    simp only [Bool.and_eq_true, decide_eq_true_eq] at q1
    rw [q1.2, ev]
    congr 1
theorem wy_un (X : Nat → Int32) (a : Nat) : ∀ i c d, wyP X a i c → wyP X a i d → c = d := by
  intro i
  induction i with
  | zero => intro c d h1 h2; exact h1.trans h2.symm
  | succ i ih =>
    intro c d ⟨b, w, hc, q1, q2⟩ ⟨b', w', hd, r1, r2⟩
    have e := ih b b' w w'
    subst e
    rcases Nat.lt_trichotomy c d with q | q | q
    · rw [r2 c q] at q1; exact absurd q1 (by decide)
    · exact q
    · rw [q2 d q] at r1; exact absurd r1 (by decide)
end RW2
