/-! HOW FAR CELLS LIE: the reference's layFar -/
abbrev sX (L t : Nat) (lt rt rp : Option Nat) (sw : Bool) (h : Nat → Nat → Int32) (gl : Nat → Nat → Int64) : mvSt := (lyMe L t, h, gl, lyR lt rt rp sw t)
theorem up_put {α : Type} (h : Nat → Nat → α) (o k : Nat) (F : Nat → α) (v : α) : mvPut (va_up h o F) o k v = va_up h o (va_up F k v) := by
  unfold mvPut
  rw [va_up_self, bx_uu]
theorem av_h {d k pc : Nat} {L st : List Value} {me : Nat × Nat × (Nat → Nat × Nat)} {h h' : Nat → Nat → Int32} {gl : Nat → Nat → Int64} {gr : Nat → Nat → Option Nat} {r : Option Value × mvSt} (e : h = h') (A : avA d k pc L st (me, h', gl, gr) r) : avA d k pc L st (me, h, gl, gr) r := e ▸ A
theorem up_id {α : Type} (h : Nat → α) (o : Nat) : va_up h o (h o) = h := by
  funext j
  unfold va_up
  split
  · rename_i e; rw [e]
  · rfl
def rw1 {α : Type} (n : Nat) (X F : Nat → α) : Nat → α := fun j => if j < n then X j else F j
theorem rw1_0 {α : Type} (X F : Nat → α) : rw1 0 X F = F := by
  funext j
  simp [rw1]
theorem rw1_s {α : Type} (n : Nat) (X F : Nat → α) {v : α} (h : v = X n) : va_up (rw1 n X F) n v = rw1 (n + 1) X F := by
  funext j
  unfold va_up rw1
  by_cases c : j = n
  · subst c; simp [h]
  · have e : (j < n + 1) = (j < n) := propext ⟨fun _ => by omega, fun _ => by omega⟩
    simp [c, e]
theorem rw1_k {α : Type} (n : Nat) (X F : Nat → α) (h : F n = X n) : rw1 n X F = rw1 (n + 1) X F := by
  funext j
  unfold rw1
  by_cases c : j = n
  · subst c; simp [h]
  · have e : (j < n + 1) = (j < n) := propext ⟨fun _ => by omega, fun _ => by omega⟩
    simp [e]
theorem rw1_lt {α : Type} {n j : Nat} {X F : Nat → α} (h : j < n) : rw1 n X F j = X j := if_pos h
theorem rw1_ge {α : Type} {n j : Nat} {X F : Nat → α} (h : n ≤ j) : rw1 n X F j = F j := if_neg (by omega)
theorem rw1_ext {α : Type} {n : Nat} {X Y F : Nat → α} (h : ∀ j, j < n → X j = Y j) : rw1 n X F = rw1 n Y F := by
  funext j
  unfold rw1
  split
  · rename_i c; exact h j c
  · rfl
theorem rw1_rw {α : Type} (n : Nat) (X Y F : Nat → α) : rw1 n X (rw1 n Y F) = rw1 n X F := by
  funext j
  unfold rw1
  split <;> rfl
def fk (g : Nat → Nat → Bool) : Nat → Nat → Int32
  | 0, _ => -1
  | n + 1, c => if g n c = true ∧ fk g n c = -1 then nI n else fk g n c
def sgl (x : Int32) : Nat → Bool := fun j => decide (x = nI j)
def frA (A : Nat → Int32) : Nat → Bool := fun j => decide (A (38 + j) ≠ nI 1)
def gwA (A : Nat → Int32) (x : Int32) : Nat → Nat → Bool := grow (frA A) (sgl x)
def farA (A : Nat → Int32) (x : Int32) : Nat → Int32 := fk (gwA A x) 30
abbrev frI (A : Nat → Int32) (c : Int32) : Prop := 0 ≤ c.toInt ∧ c.toInt < 30 ∧ A (38 + c.toInt.toNat) ≠ nI 1
theorem int_nI {c : Int32} (h : 0 ≤ c.toInt) : c = nI c.toInt.toNat := by
  have h2 := c.toInt_lt
  apply Int32.toInt_inj.mp
  rw [nI_toInt (by omega)]
  omega
theorem cell_of {x : Int32} {m : Nat} (h0 : 0 ≤ x.toInt) (h1 : x.toInt < m) : ∃ n, n < m ∧ x = nI n ∧ x.toInt.toNat = n := ⟨x.toInt.toNat, by omega, int_nI h0, rfl⟩
theorem fk_set {g : Nat → Nat → Bool} {k c : Nat} (h : g k c = true) (hk : k < 2 ^ 31) : fk g (k + 1) c ≠ -1 := by
  rw [fk]
  split
  · intro e
    have := congrArg Int32.toInt e
    rw [nI_toInt hk, show (-1 : Int32).toInt = -1 from by decide] at this
    omega
  · rename_i q
    intro e
    exact q ⟨h, e⟩
theorem fk_stay {g : Nat → Nat → Bool} {k c : Nat} (h : ∀ m, k ≤ m → g m c = true → fk g k c ≠ -1) : ∀ n, k ≤ n → fk g n c = fk g k c := by
  intro n hn
  obtain ⟨e, rfl⟩ := Nat.exists_eq_add_of_le hn
  induction e with
  | zero => rfl
  | succ e ih =>
    have i := ih (by omega)
    rw [← Nat.add_assoc, fk, i]
    split
    · rename_i q
      exact absurd q.2 (h _ (by omega) q.1)
    · rfl
section RF
variable {L t : Nat} {lt rt rp : Option Nat} {sw : Bool} {h : Nat → Nat → Int32} {gl : Nat → Nat → Int64}
theorem r_isFree (c : Int32) : avE 2 190 [.ref 81, .int c] (sX L t lt rt rp sw h gl) (some (.int (bI (frI (h 82) c))), sX L t lt rt rp sw h gl) := by
  show avA _ 190 0 [.ref 81, .int (c)] [] _ _
  refine a_iload_1 rfl rfl ?_
  refine a_statI rfl rfl (r_isCell c) (Nat.le_of_ble_eq_true rfl) ⟨rfl, rfl, rfl⟩ rfl rfl rfl (Nat.le_of_ble_eq_true rfl) rfl ?_
  refine a_ifb_eq rfl rfl rfl (fun c_4 => ?_) (fun c_4 => ?_)
  · refine a_iconst (v := (nI 0)) rfl rfl rfl ?_
    refine av_to (a_zret rfl rfl (Or.inl rfl)) (bz0 ?_)
    first | exact ⟨c_4.1, c_4.2, c_17⟩ | exact fun q => q.2.2 c_17 | exact fun q => c_4 ⟨q.1, q.2.1⟩
  · refine a_aload_0 rfl rfl ?_
    refine a_getr rfl rfl rfl (fun _ _ _ => rfl) rfl ?_
    refine a_bipush (v := (nI 38)) rfl rfl rfl ?_
    refine a_iload_1 rfl rfl ?_
    refine a_as (y := nI (c.toInt.toNat)) (int_nI c_4.1) ?_
    refine a_iaddN rfl rfl ?_
    refine a_iald rfl rfl (Or.inl rfl) rfl (by omega) (by decide) ?_
    refine a_iconst (v := (nI 1)) rfl rfl rfl ?_
    refine a_cmp_eq rfl rfl rfl (fun c_17 => ?_) (fun c_17 => ?_)
    · refine a_iconst (v := (nI 0)) rfl rfl rfl ?_
      refine av_to (a_zret rfl rfl (Or.inl rfl)) (bz0 ?_)
      first | exact ⟨c_4.1, c_4.2, c_17⟩ | exact fun q => q.2.2 c_17 | exact fun q => c_4 ⟨q.1, q.2.1⟩
    · refine a_iconst (v := (nI 1)) rfl rfl rfl ?_
      refine a_goto rfl rfl ?_
      refine av_to (a_zret rfl rfl (Or.inr rfl)) (bz1 ?_)
      first | exact ⟨c_4.1, c_4.2, c_17⟩ | exact fun q => q.2.2 c_17 | exact fun q => c_4 ⟨q.1, q.2.1⟩
theorem r_isFreeN (c : Nat) (hc : c < 30) : avE 2 190 [.ref 81, .int (nI c)] (sX L t lt rt rp sw h gl) (some (.int (bI (frA (h 82) c = true))), sX L t lt rt rp sw h gl) := by
  refine av_eq (r_isFree (nI c)) (congrArg (fun v => (some (Value.int v), sX L t lt rt rp sw h gl)) ?_)
  refine bI_iff ?_
  unfold frA frI
  rw [nI_toInt (by omega)]
  exact ⟨fun q => decide_eq_true q.2.2, fun q => ⟨by omega, by omega, of_decide_eq_true q⟩⟩
theorem l_free (m : Nat) : ∀ (i : Nat), i + m = 30 → avA 3 246 4 [.ref 81, .int (bsI i (frA (h 82))), .int (nI i)] [] (sX L t lt rt rp sw h gl) (some (.int (bsI 30 (frA (h 82)))), sX L t lt rt rp sw h gl) := by
  induction m with
  | zero =>
    intro i hi
    have e : i = 30 := by omega
    subst e
    refine a_iload_2 rfl rfl ?_
    refine a_bipush (v := (nI 30)) rfl rfl rfl ?_
    refine a_cmpN_ge rfl rfl rfl (by omega) (by omega) (fun _ => ?_) (fun c_7 => absurd c_7 (by decide))
    refine a_iload_1 rfl rfl ?_
    exact a_iret rfl rfl
  | succ m ih =>
    intro i hi
    refine a_iload_2 rfl rfl ?_
    refine a_bipush (v := (nI 30)) rfl rfl rfl ?_
    refine a_cmpN_ge rfl rfl rfl (by omega) (by omega) (fun c_7 => False.elim (by omega)) (fun _ => ?_)
    refine a_iload_1 rfl rfl ?_
    refine a_aload_0 rfl rfl ?_
    refine a_iload_2 rfl rfl ?_
    refine a_virtI rfl rfl (r_isFreeN i (by omega)) (Nat.le_of_ble_eq_true rfl) ⟨rfl, rfl, rfl, rfl⟩ rfl rfl rfl (Nat.le_of_ble_eq_true rfl) rfl rfl ?_
    refine a_ifb_eq rfl rfl rfl (fun c_16 => ?_) (fun c_16 => ?_)
    · refine a_iconst (v := (nI 0)) rfl rfl rfl ?_
      refine a_ior rfl rfl ?_
      refine a_istore_1 rfl rfl rfl ?_
      refine a_iinc_2 rfl rfl (nI_inc _ _) rfl ?_
      refine a_goto rfl rfl ?_
      have e := ih (i + 1) (by omega)
      first | (rw [← bs_succT (by omega) c_16] at e; exact e) | (rw [bs_succF (by simpa using c_16)] at e; rw [show nI 0 = 0 from rfl, Int32.or_zero]; exact e)
    · refine a_iconst (v := (nI 1)) rfl rfl rfl ?_
      refine a_iload_2 rfl rfl ?_
      refine a_ishl rfl rfl ?_
      refine a_goto rfl rfl ?_
      refine a_ior rfl rfl ?_
      refine a_istore_1 rfl rfl rfl ?_
      refine a_iinc_2 rfl rfl (nI_inc _ _) rfl ?_
      refine a_goto rfl rfl ?_
      have e := ih (i + 1) (by omega)
      first | (rw [← bs_succT (by omega) c_16] at e; exact e) | (rw [bs_succF (by simpa using c_16)] at e; rw [show nI 0 = 0 from rfl, Int32.or_zero]; exact e)
theorem r_free : avE 3 246 [.ref 81] (sX L t lt rt rp sw h gl) (some (.int (bsI 30 (frA (h 82)))), sX L t lt rt rp sw h gl) := by
  show avA _ 246 0 [.ref 81, mvU, mvU] [] _ _
  refine a_iconst (v := (nI 0)) rfl rfl rfl ?_
  refine a_istore_1 rfl rfl rfl ?_
  refine a_iconst (v := (nI 0)) rfl rfl rfl ?_
  refine a_istore_2 rfl rfl rfl ?_
  exact l_free 30 0 rfl
theorem l_far1 {x : Int32} {y3 y4 y5 : Value} {r : Option Value × mvSt} (F : Nat → Int32) (m : Nat) : ∀ (i : Nat), i + m = 30 → avA 4 245 21 [.ref 81, .int x, .int (nI 30), y3, y4, y5] [] (sX L t lt rt rp sw (va_up h 91 (rw1 30 (fun _ => -1) F)) gl) r → avA 4 245 2 [.ref 81, .int x, .int (nI i), y3, y4, y5] [] (sX L t lt rt rp sw (va_up h 91 (rw1 i (fun _ => -1) F)) gl) r := by
  induction m with
  | zero =>
    intro i hi Z
    have e : i = 30 := by omega
    subst e
    refine a_iload_2 rfl rfl ?_
    refine a_bipush (v := (nI 30)) rfl rfl rfl ?_
    refine a_cmpN_ge rfl rfl rfl (by omega) (by omega) (fun _ => ?_) (fun c_5 => absurd c_5 (by decide))
    exact Z
  | succ m ih =>
    intro i hi Z
    refine a_iload_2 rfl rfl ?_
    refine a_bipush (v := (nI 30)) rfl rfl rfl ?_
    refine a_cmpN_ge rfl rfl rfl (by omega) (by omega) (fun c_5 => False.elim (by omega)) (fun _ => ?_)
    refine a_aload_0 rfl rfl ?_
    refine a_getr rfl rfl rfl (fun _ _ _ => rfl) rfl ?_
    refine a_iload_2 rfl rfl ?_
    refine a_iconst (v := (-1)) rfl rfl rfl ?_
    refine a_iast rfl rfl rfl rfl (by omega) (by decide) ?_
    rw [up_put, rw1_s i _ _ rfl]
    refine a_iinc_2 rfl rfl (nI_inc _ _) rfl ?_
    refine a_goto rfl rfl ?_
    exact ih (i + 1) (by omega) Z
theorem l_far2 {x o : Int32} {r : Option Value × mvSt} (F : Nat → Int32) (g : Nat → Nat → Bool) (k : Nat) (hk : k < 30) (m : Nat) : ∀ (i : Nat), i + m = 30 → avA 4 245 101 [.ref 81, .int x, .int (bsI 30 (g k)), .int o, .int (nI k), .int (nI 30)] [] (sX L t lt rt rp sw (va_up h 91 (rw1 30 (fk g (k + 1)) F)) gl) r → avA 4 245 59 [.ref 81, .int x, .int (bsI 30 (g k)), .int o, .int (nI k), .int (nI i)] [] (sX L t lt rt rp sw (va_up h 91 (rw1 i (fk g (k + 1)) (rw1 30 (fk g k) F))) gl) r := by
  induction m with
  | zero =>
    intro i hi Z
    have e : i = 30 := by omega
    subst e
    rw [rw1_rw]
    refine a_iload_5 rfl rfl ?_
    refine a_bipush (v := (nI 30)) rfl rfl rfl ?_
    refine a_cmpN_ge rfl rfl rfl (by omega) (by omega) (fun _ => ?_) (fun c_63 => absurd c_63 (by decide))
    exact Z
  | succ m ih =>
    intro i hi Z
    have v0 : (va_up h 91 (rw1 i (fk g (k + 1)) (rw1 30 (fk g k) F))) 91 i = fk g k i := by
      rw [va_up_self, rw1_ge (Nat.le_refl _), rw1_lt (by omega)]
    refine a_iload_5 rfl rfl ?_
    refine a_bipush (v := (nI 30)) rfl rfl rfl ?_
    refine a_cmpN_ge rfl rfl rfl (by omega) (by omega) (fun c_63 => False.elim (by omega)) (fun _ => ?_)
    refine a_iload_2 rfl rfl ?_
    refine a_iload_5 rfl rfl ?_
    refine a_statI rfl rfl (r_has (bsI 30 (g k)) i (by omega)) (Nat.le_of_ble_eq_true rfl) ⟨rfl, rfl, rfl⟩ rfl rfl rfl (Nat.le_of_ble_eq_true rfl) rfl ?_
    refine a_ifb_eq rfl rfl rfl (fun c_72 => ?_) (fun c_72 => ?_)
    · refine a_iinc_5 rfl rfl (nI_inc _ _) rfl ?_
      refine a_goto rfl rfl ?_
      first | exact ih (i + 1) (by omega) Z | (rw [rw1_k i _ _ (by rw [rw1_lt (by omega), fk, if_neg (fun q => c_83 q.2)])]; exact ih (i + 1) (by omega) Z) | (rw [rw1_k i _ _ (by rw [rw1_lt (by omega), fk, if_neg (fun q => c_72 (by rw [tb_bs (by omega), q.1]; simp; omega))])]; exact ih (i + 1) (by omega) Z)
    · have hg : g k i = true := by rw [tb_bs (by omega)] at c_72; simpa [show i < 30 by omega] using c_72
      refine a_aload_0 rfl rfl ?_
      refine a_getr rfl rfl rfl (fun _ _ _ => rfl) rfl ?_
      refine a_iload_5 rfl rfl ?_
      refine a_iald rfl rfl (Or.inl rfl) rfl (by omega) (by decide) ?_
      refine a_as (y := fk g k i) v0 ?_
      refine a_iconst (v := (-1)) rfl rfl rfl ?_
      refine a_cmp_ne rfl rfl rfl (fun c_83 => ?_) (fun c_83 => ?_)
      · refine a_iinc_5 rfl rfl (nI_inc _ _) rfl ?_
        refine a_goto rfl rfl ?_
        first | exact ih (i + 1) (by omega) Z | (rw [rw1_k i _ _ (by rw [rw1_lt (by omega), fk, if_neg (fun q => c_83 q.2)])]; exact ih (i + 1) (by omega) Z) | (rw [rw1_k i _ _ (by rw [rw1_lt (by omega), fk, if_neg (fun q => c_72 (by rw [tb_bs (by omega), q.1]; simp; omega))])]; exact ih (i + 1) (by omega) Z)
      · refine a_aload_0 rfl rfl ?_
        refine a_getr rfl rfl rfl (fun _ _ _ => rfl) rfl ?_
        refine a_iload_5 rfl rfl ?_
        refine a_iload_4 rfl rfl ?_
        refine a_iast rfl rfl rfl rfl (by omega) (by decide) ?_
        rw [up_put, rw1_s i _ _ (by rw [fk, if_pos ⟨hg, c_83⟩])]
        refine a_iinc_5 rfl rfl (nI_inc _ _) rfl ?_
        refine a_goto rfl rfl ?_
        first | exact ih (i + 1) (by omega) Z | (rw [rw1_k i _ _ (by rw [rw1_lt (by omega), fk, if_neg (fun q => c_83 q.2)])]; exact ih (i + 1) (by omega) Z) | (rw [rw1_k i _ _ (by rw [rw1_lt (by omega), fk, if_neg (fun q => c_72 (by rw [tb_bs (by omega), q.1]; simp; omega))])]; exact ih (i + 1) (by omega) Z)
theorem gw_more {th p : Nat → Bool} (k : Nat) : (bsI 30 (fun j => grow th p k j || nb (grow th p k) j) &&& bsI 30 th &&& (bsI 30 (grow th p k) ^^^ (-1))) = bsI 30 (fun j => grow th p (k + 1) j && !grow th p k j) := by
  rw [bs_and (by omega), bs_diff (by omega)]
  rfl
theorem gw_or {th p : Nat → Bool} (k : Nat) : bsI 30 (grow th p k) ||| bsI 30 (fun j => grow th p (k + 1) j && !grow th p k j) = bsI 30 (grow th p (k + 1)) := by
  rw [bs_or (by omega)]
  refine bs_ext (fun j hj => ?_)
  cases c : grow th p k j
  · simp
  · rw [grow_mono c]; rfl
theorem l_far3 {x : Int32} (th p : Nat → Bool) (F : Nat → Int32) (m : Nat) : ∀ (k : Nat) (y5 : Value), k + m = 30 → avA 4 245 45 [.ref 81, .int x, .int (bsI 30 (grow th p k)), .int (bsI 30 th), .int (nI k), y5] [] (sX L t lt rt rp sw (va_up h 91 (rw1 30 (fk (grow th p) k) F)) gl) (none, sX L t lt rt rp sw (va_up h 91 (rw1 30 (fk (grow th p) 30) F)) gl) := by
  induction m with
  | zero =>
    intro i y5 hi
    have e : i = 30 := by omega
    subst e
    refine a_iload_4 rfl rfl ?_
    refine a_bipush (v := (nI 30)) rfl rfl rfl ?_
    refine a_cmpN_ge rfl rfl rfl (by omega) (by omega) (fun _ => ?_) (fun c_49 => absurd c_49 (by decide))
    exact a_vret rfl rfl
  | succ m ih =>
    intro i y5 hi
    refine a_iload_4 rfl rfl ?_
    refine a_bipush (v := (nI 30)) rfl rfl rfl ?_
    refine a_cmpN_ge rfl rfl rfl (by omega) (by omega) (fun c_49 => False.elim (by omega)) (fun _ => ?_)
    refine a_iload_2 rfl rfl ?_
    refine a_if_eq rfl rfl rfl (fun c_53 => ?_) (fun c_53 => ?_)
    · refine av_to (a_vret rfl rfl) ?_
      refine congrArg (fun F' => (none, sX L t lt rt rp sw (va_up h 91 F') gl)) (rw1_ext (fun j hj => ?_))
      have q := (bs_eq0 (by omega) _).mp c_53
      refine (fk_stay (fun m hm hg => ?_) 30 (by omega)).symm
      have st := grow_stay (th := th) (p := p) (i := i) (fun j hj => by show ((grow th p i j || nb (grow th p i) j) && th j) = _; rw [q j hj, nb_ext (q := fun _ => false) q j hj, nb_0]; rfl) m hm j hj
      rw [hg, q j hj] at st
      exact absurd st (by decide)
    · refine a_iconst (v := (nI 0)) rfl rfl rfl ?_
      refine a_istore_5 rfl rfl rfl ?_
      refine av_h (congrArg (va_up h 91) (rw1_0 _ _).symm) (l_far2 F (grow th p) i (by omega) 30 0 rfl ?_)
      refine a_iload_2 rfl rfl ?_
      refine a_statI rfl rfl (r_spread _) (Nat.le_of_ble_eq_true rfl) ⟨rfl, rfl, rfl⟩ rfl rfl rfl (Nat.le_of_ble_eq_true rfl) rfl ?_
      refine a_iload_3 rfl rfl ?_
      refine a_iand rfl rfl ?_
      refine a_iload_2 rfl rfl ?_
      refine a_iconst (v := (-1)) rfl rfl rfl ?_
      refine a_ixor rfl rfl ?_
      refine a_iand rfl rfl ?_
      refine a_as (y := _) (gw_more i) ?_
      refine a_istore_5 rfl rfl rfl ?_
      refine a_iload_5 rfl rfl ?_
      refine a_if_ne rfl rfl rfl (fun c_115 => ?_) (fun c_115 => ?_)
      · refine a_iload_2 rfl rfl ?_
        refine a_iload_5 rfl rfl ?_
        refine a_ior rfl rfl ?_
        refine a_as (y := _) (gw_or i) ?_
        refine a_istore_2 rfl rfl rfl ?_
        refine a_iinc_4 rfl rfl (nI_inc _ _) rfl ?_
        refine a_goto rfl rfl ?_
        exact ih (i + 1) _ (by omega)
      · refine av_to (a_vret rfl rfl) ?_
        refine congrArg (fun F' => (none, sX L t lt rt rp sw (va_up h 91 F') gl)) (rw1_ext (fun j hj => ?_))
        have q := (bs_eq0 (by omega) _).mp c_115
        have st0 : ∀ j, j < 30 → grow th p (i + 1) j = grow th p i j := fun j hj => by
          have a := q j hj
          cases c : grow th p i j
          · simpa [c] using a
          · exact grow_mono c
        refine (fk_stay (fun m hm hg => ?_) 30 (by omega)).symm
        have st := grow_stay st0 m (by omega) j hj
        rw [hg] at st
        exact fk_set st.symm (by omega)
theorem gw_0 (A : Nat → Int32) (x : Int32) (hx : frI A x) : nI 1 <<< (x &&& 31) = bsI 30 (gwA A x 0) := by
  obtain ⟨h0, h1, h2⟩ := hx
  obtain ⟨n, hn, e, e2⟩ := cell_of (m := 30) h0 h1
  rw [e2] at h2
  subst e
  rw [bs_one (n := 30) (by omega) hn]
  refine bs_ext (fun j hj => ?_)
  show decide (j = n) = (decide (nI n = nI j) && decide (A (38 + j) ≠ nI 1))
  by_cases c : j = n
  · subst c; simp [h2]
  · have c2 : ¬ nI n = nI j := fun q => c ((nI_eq (by omega) (by omega)).mp q).symm
    simp [c, c2]
theorem gw_00 (A : Nat → Int32) (x : Int32) (hx : ¬ frI A x) : nI 0 = bsI 30 (gwA A x 0) := by
  rw [← bs_zero 30]
  refine bs_ext (fun j hj => ?_)
  show false = (decide (x = nI j) && decide (A (38 + j) ≠ nI 1))
  by_cases c : x = nI j
  · by_cases c2 : A (38 + j) = nI 1
    · simp [c2]
    · refine absurd ?_ hx
      subst c
      refine ⟨?_, ?_, ?_⟩
      · rw [nI_toInt (by omega)]; omega
      · rw [nI_toInt (by omega)]; omega
      · rw [nI_toInt (by omega)]; exact c2
  · simp [c]
theorem r_layFar (x : Int32) : avE 4 245 [.ref 81, .int x] (sX L t lt rt rp sw h gl) (none, sX L t lt rt rp sw (va_up h 91 (rw1 30 (farA (h 82) x) (h 91))) gl) := by
  show avA _ 245 0 [.ref 81, .int (x), mvU, mvU, mvU, mvU] [] _ _
  refine a_iconst (v := (nI 0)) rfl rfl rfl ?_
  refine a_istore_2 rfl rfl rfl ?_
  refine av_h (h' := va_up h 91 (rw1 0 (fun _ => -1) (h 91))) (by rw [rw1_0, up_id]) (l_far1 (h 91) 30 0 rfl ?_)
  refine a_aload_0 rfl rfl ?_
  refine a_iload_1 rfl rfl ?_
  refine a_virtI rfl rfl (r_isFree x) (Nat.le_of_ble_eq_true rfl) ⟨rfl, rfl, rfl, rfl⟩ rfl rfl rfl (Nat.le_of_ble_eq_true rfl) rfl rfl ?_
  refine a_ifb_eq rfl rfl rfl (fun c_26 => ?_) (fun c_26 => ?_)
  · refine a_iconst (v := (nI 0)) rfl rfl rfl ?_
    refine a_as _ (gw_00 (h 82) x c_26) ?_
    refine a_istore_2 rfl rfl rfl ?_
    refine a_aload_0 rfl rfl ?_
    refine a_virtI rfl rfl (r_free) (Nat.le_of_ble_eq_true rfl) ⟨rfl, rfl, rfl, rfl⟩ rfl rfl rfl (Nat.le_of_ble_eq_true rfl) rfl rfl ?_
    refine a_istore_3 rfl rfl rfl ?_
    refine a_iconst (v := (nI 0)) rfl rfl rfl ?_
    refine a_istore_4 rfl rfl rfl ?_
    exact l_far3 (frA (h 82)) (sgl x) (h 91) 30 0 _ rfl
  · refine a_iconst (v := (nI 1)) rfl rfl rfl ?_
    refine a_iload_1 rfl rfl ?_
    refine a_ishl rfl rfl ?_
    refine a_as (y := _) (gw_0 (h 82) x c_26) ?_
    refine a_goto rfl rfl ?_
    refine a_istore_2 rfl rfl rfl ?_
    refine a_aload_0 rfl rfl ?_
    refine a_virtI rfl rfl (r_free) (Nat.le_of_ble_eq_true rfl) ⟨rfl, rfl, rfl, rfl⟩ rfl rfl rfl (Nat.le_of_ble_eq_true rfl) rfl rfl ?_
    refine a_istore_3 rfl rfl rfl ?_
    refine a_iconst (v := (nI 0)) rfl rfl rfl ?_
    refine a_istore_4 rfl rfl rfl ?_
    exact l_far3 (frA (h 82)) (sgl x) (h 91) 30 0 _ rfl
end RF
