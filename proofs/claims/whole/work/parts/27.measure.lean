/-! HOW FAR CELLS LIE: the class's rows -/
theorem low_mod (v l : Nat) (h1 : v.testBit l = true) (h2 : ∀ j, j < l → v.testBit j = false) : v = 2 ^ (l + 1) * (v / 2 ^ (l + 1)) + 2 ^ l := by
  have e : v % 2 ^ (l + 1) = 2 ^ l := by
    apply Nat.eq_of_testBit_eq
    intro i
    rw [Nat.testBit_mod_two_pow, Nat.testBit_two_pow]
    rcases Nat.lt_trichotomy i l with q | q | q
    · rw [h2 i q]
      simp; omega
    · subst q; simp [h1]
    · rw [decide_eq_false (by omega : ¬ i < l + 1), decide_eq_false (by omega : ¬ l = i)]
      rfl
  have := Nat.div_add_mod v (2 ^ (l + 1))
  omega
theorem low_bit (v l : Nat) (hv : v < 2 ^ 31) (h1 : v.testBit l = true) (h2 : ∀ j, j < l → v.testBit j = false) : nI v &&& (-(nI v)) = nI (2 ^ l) := by
  have hv0 : 0 < v := Nat.pos_of_ne_zero fun e => by subst e; simp at h1
  have en : -(nI v) = ~~~(nI (v - 1)) := by
    have e : nI v = nI (v - 1) + 1 := by rw [nI_1, show v - 1 + 1 = v by omega]
    rw [Int32.not_eq_neg_sub, e, Int32.neg_add]
  have hm := low_mod v l h1 h2
  have hl : 2 ^ l - 1 < 2 ^ (l + 1) := by
    have : 2 ^ l < 2 ^ (l + 1) := Nat.pow_lt_pow_right (by decide) (by omega)
    omega
  have hm1 : v - 1 = 2 ^ (l + 1) * (v / 2 ^ (l + 1)) + (2 ^ l - 1) := by
    have : 0 < 2 ^ l := Nat.two_pow_pos l
    omega
  apply tb_ext
  intro j hj
  have hnot : tb (~~~(nI (v - 1))) j = !tb (nI (v - 1)) j := by
    unfold tb
    rw [Int32.toBitVec_not, BitVec.getLsbD_not]
    simp [hj]
  rw [tb_and, en, hnot, tb_nI, tb_nI, tb_nI, Nat.testBit_two_pow]
  simp only [hj, decide_true, Bool.true_and]
  have hb : (v - 1).testBit j = if j < l + 1 then (2 ^ l - 1).testBit j else (v / 2 ^ (l + 1)).testBit (j - (l + 1)) := by
    have := Nat.testBit_two_pow_mul_add (v / 2 ^ (l + 1)) hl j
    rw [← hm1] at this
    exact this
  have hc : v.testBit j = if j < l + 1 then (2 ^ l).testBit j else (v / 2 ^ (l + 1)).testBit (j - (l + 1)) := by
    have := Nat.testBit_two_pow_mul_add (v / 2 ^ (l + 1)) (b := 2 ^ l) (i := l + 1) (Nat.pow_lt_pow_right (by decide) (by omega)) j
    rw [← hm] at this
    exact this
  rw [hb, hc]
  rcases Nat.lt_trichotomy j l with q | q | q
  · rw [if_pos (by omega), Nat.testBit_two_pow]
    simp; omega
  · subst q
    rw [if_pos (by omega), if_pos (by omega), Nat.testBit_two_pow, Nat.testBit_two_pow_sub_one]
    simp
  · rw [if_neg (by omega), if_neg (by omega)]
    have : ¬ l = j := by omega
    simp [this]
theorem bs_least {n : Nat} {p : Nat → Bool} (h : ∃ j, j < n ∧ p j = true) : ∃ l, l < n ∧ p l = true ∧ ∀ j, j < l → p j = false := by
  obtain ⟨k, hk, hm⟩ := pk_least (fun j => j < n ∧ p j = true) h
  exact ⟨k, hk.1, hk.2, fun j hj => by
    cases c : p j
    · rfl
    · exact absurd ⟨by omega, c⟩ (hm j hj)⟩
theorem bs_low {n l : Nat} (hn : n ≤ 31) (p : Nat → Bool) (hl : l < n) (h1 : p l = true) (h2 : ∀ j, j < l → p j = false) : bsI n p &&& (-(bsI n p)) = nI (2 ^ l) :=
  low_bit (bsN n p) l (bs_31 hn p) (by rw [bs_t]; simp [hl, h1]) (fun j hj => by rw [bs_t, h2 j hj]; simp)
theorem two_shl : ∀ l, l < 31 → nI (2 ^ l) = nI 1 <<< (nI l &&& 31) := by decide +kernel
theorem pc_two : ∀ l, l < 31 → pcF 32 (2 ^ l - 1) = l := by decide +kernel
theorem bs_xor1 (R : Nat → Bool) (l : Nat) (h : R l = true) : bsI 30 R ^^^ bsI 30 (fun j => decide (j = l)) = bsI 30 (fun j => R j && !decide (j = l)) := by
  apply tb_ext
  intro j hj
  rw [tb_xor, tb_bs (by omega), tb_bs (by omega), tb_bs (by omega)]
  by_cases c : j = l
  · subst c; simp [h]
  · simp [c]
def rw2 {α : Type} (b n : Nat) (X F : Nat → α) : Nat → α := fun j => if b ≤ j ∧ j < b + n then X (j - b) else F j
theorem rw2_0 {α : Type} (b : Nat) (X F : Nat → α) : rw2 b 0 X F = F := by
  funext j
  unfold rw2
  rw [if_neg (by omega)]
theorem rw2_s {α : Type} (b n : Nat) (X F : Nat → α) {v : α} (h : v = X n) : va_up (rw2 b n X F) (b + n) v = rw2 b (n + 1) X F := by
  funext j
  unfold va_up rw2
  by_cases c : j = b + n
  · subst c; rw [if_pos rfl, if_pos (by omega), h, Nat.add_sub_cancel_left]
  · rw [if_neg c]
    by_cases c2 : b ≤ j ∧ j < b + n
    · rw [if_pos c2, if_pos (by omega)]
    · rw [if_neg c2, if_neg (by omega)]
theorem rw2_in {α : Type} {b n j : Nat} {X F : Nat → α} (h : j < n) : rw2 b n X F (b + j) = X j := by
  unfold rw2
  rw [if_pos (by omega), Nat.add_sub_cancel_left]
theorem rw2_out {α : Type} {b n j : Nat} {X F : Nat → α} (h : j < b ∨ b + n ≤ j) : rw2 b n X F j = F j := by
  unfold rw2
  rw [if_neg (by omega)]
theorem rw2_put {α : Type} {b n k : Nat} {X F : Nat → α} {v : α} (h : k < n) : va_up (rw2 b n X F) (b + k) v = rw2 b n (va_up X k v) F := by
  funext j
  unfold va_up rw2
  by_cases c : j = b + k
  · subst c
    rw [if_pos rfl, if_pos (by omega)]
    dsimp only
    rw [if_pos (by omega)]
  · rw [if_neg c]
    by_cases c2 : b ≤ j ∧ j < b + n
    · rw [if_pos c2, if_pos c2]
      dsimp only
      rw [if_neg (by omega)]
    · rw [if_neg c2, if_neg c2]
theorem rw2_ext {α : Type} {b n : Nat} {X Y F : Nat → α} (h : ∀ j, j < n → X j = Y j) : rw2 b n X F = rw2 b n Y F := by
  funext j
  unfold rw2
  split
  · rename_i c; exact h _ (by omega)
  · rfl
/-- what was told of cells: open ones, and the rows that are made -/
def rPth (op : Nat → Bool) (F G : Nat → Int32) : Prop := F 0 = bsI 30 op ∧ ∃ ms : Nat → Bool, F 1 = bsI 30 ms ∧ ∀ f, f < 30 → ms f = true → ∀ c, c < 30 → G (f * 30 + c) = fk (grow op (sgl (nI f))) 30 c
/-- reached at k and not before -/
def edg (g : Nat → Nat → Bool) (k : Nat) : Nat → Bool := fun j => g k j && decide (fk g k j = -1)
section RM
variable {L t : Nat} {lt rt rp : Option Nat} {sw : Bool} {h : Nat → Nat → Int32} {gl : Nat → Nat → Int64}
theorem l_ms1 {y4 y5 y6 y7 y8 : Value} {r : Option Value × mvSt} (f : Nat) (hf : f < 30) (F : Nat → Int32) (m : Nat) : ∀ (i : Nat), i + m = 30 → avA 1 93 59 [.ref 9, .int (nI f), .int (nI (f * 30)), .int (nI 30), y4, y5, y6, y7, y8] [] (sX L t lt rt rp sw (va_up h 10 (rw2 (f * 30) 30 (fun _ => -1) F)) gl) r → avA 1 93 38 [.ref 9, .int (nI f), .int (nI (f * 30)), .int (nI i), y4, y5, y6, y7, y8] [] (sX L t lt rt rp sw (va_up h 10 (rw2 (f * 30) i (fun _ => -1) F)) gl) r := by
  induction m with
  | zero =>
    intro i hi Z
    have e : i = 30 := by omega
    subst e
    refine a_iload_3 rfl rfl ?_
    refine a_bipush (v := (nI 30)) rfl rfl rfl ?_
    refine a_cmpN_ge rfl rfl rfl (by omega) (by omega) (fun _ => ?_) (fun c_41 => absurd c_41 (by decide))
    exact Z
  | succ m ih =>
    intro i hi Z
    refine a_iload_3 rfl rfl ?_
    refine a_bipush (v := (nI 30)) rfl rfl rfl ?_
    refine a_cmpN_ge rfl rfl rfl (by omega) (by omega) (fun c_41 => False.elim (by omega)) (fun _ => ?_)
    refine a_aload_0 rfl rfl ?_
    refine a_getr rfl rfl rfl (fun _ _ _ => rfl) rfl ?_
    refine a_iload_2 rfl rfl ?_
    refine a_iload_3 rfl rfl ?_
    refine a_iaddN rfl rfl ?_
    refine a_iconst (v := (-1)) rfl rfl rfl ?_
    refine a_iast rfl rfl rfl rfl (by omega) (by decide) ?_
    rw [up_put, rw2_s _ i _ _ rfl]
    refine a_iinc_3 rfl rfl (nI_inc _ _) rfl ?_
    refine a_goto rfl rfl ?_
    exact ih (i + 1) (by omega) Z
/-- the inner loop: R is what is left of the edge E -/
theorem l_ms2 {x4 : Int32} {r : Option Value × mvSt} (f : Nat) (hf : f < 30) (F : Nat → Int32) (X : Nat → Int32) (E : Nat → Bool) (k : Nat) (hk : k < 30) (m : Nat) : ∀ (i : Nat) (R : Nat → Bool) (y8 : Value), i + m = 30 → cnt 30 R ≤ m → (∀ j, j < 30 → R j = true → E j = true) →
    (∀ i y8, avA 1 93 147 [.ref 9, .int (nI f), .int (nI (f * 30)), .int (bsI 30 E), .int x4, .int (nI k), .int 0, .int (nI i), y8] [] (sX L t lt rt rp sw (va_up h 10 (rw2 (f * 30) 30 (fun j => if E j then nI k else X j) F)) gl) r) → avA 1 93 98 [.ref 9, .int (nI f), .int (nI (f * 30)), .int (bsI 30 E), .int x4, .int (nI k), .int (bsI 30 R), .int (nI i), y8] [] (sX L t lt rt rp sw (va_up h 10 (rw2 (f * 30) 30 (fun j => if E j && !R j then nI k else X j) F)) gl) r := by
  induction m with
  | zero =>
    intro i R y8 hi hc hR Z
    have e : i = 30 := by omega
    subst e
    have q := cnt_eq0.mp (by omega : cnt 30 R = 0)
    rw [(bs_eq0 (by omega) R).mpr q, rw2_ext (Y := fun j => if E j then nI k else X j) (fun j hj => by rw [q j hj]; simp)]
    refine a_iload_7 rfl rfl ?_
    refine a_bipush (v := (nI 30)) rfl rfl rfl ?_
    refine a_cmpN_ge rfl rfl rfl (by omega) (by omega) (fun _ => ?_) (fun c_102 => absurd c_102 (by decide))
    exact Z _ _
  | succ m ih =>
    intro i R y8 hi hc hR Z
    refine a_iload_7 rfl rfl ?_
    refine a_bipush (v := (nI 30)) rfl rfl rfl ?_
    refine a_cmpN_ge rfl rfl rfl (by omega) (by omega) (fun c_102 => False.elim (by omega)) (fun _ => ?_)
    refine a_iload_6 rfl rfl ?_
    refine a_if_eq rfl rfl rfl (fun c_107 => ?_) (fun c_107 => ?_)
    · have q := (bs_eq0 (by omega) R).mp c_107
      rw [c_107, rw2_ext (Y := fun j => if E j then nI k else X j) (fun j hj => by rw [q j hj]; simp)]
      exact Z _ _
    · obtain ⟨l, hl, l1, l2⟩ := bs_least (n := 30) (p := R) (Classical.byContradiction fun q => c_107 ((bs_eq0 (by omega) R).mpr fun j hj => by cases c : R j; rfl; exact absurd ⟨j, hj, c⟩ q))
      refine a_iload_6 rfl rfl ?_
      refine a_iload_6 rfl rfl ?_
      refine a_ineg rfl rfl ?_
      refine a_iand rfl rfl ?_
      refine a_as (y := nI (2 ^ l)) (bs_low (by omega) R hl l1 l2) ?_
      refine a_istore_8 rfl rfl rfl ?_
      refine a_aload_0 rfl rfl ?_
      refine a_getr rfl rfl rfl (fun _ _ _ => rfl) rfl ?_
      refine a_iload_2 rfl rfl ?_
      refine a_iload_8 rfl rfl ?_
      refine a_iconst (v := (nI 1)) rfl rfl rfl ?_
      refine a_isubN rfl rfl (Nat.two_pow_pos l) ?_
      refine a_statI rfl rfl (e_bitCount (2 ^ l - 1) (by have : 2 ^ l ≤ 2 ^ 30 := Nat.pow_le_pow_right (by decide) (by omega); omega)) (Nat.le_of_ble_eq_true rfl) ⟨rfl, rfl, rfl⟩ rfl rfl rfl (Nat.le_of_ble_eq_true rfl) rfl ?_
      refine a_as (y := nI (l)) (congrArg nI (pc_two l (by omega))) ?_
      refine a_iaddN rfl rfl ?_
      refine a_iload_5 rfl rfl ?_
      refine a_iast rfl rfl rfl rfl (by omega) (by decide) ?_
      rw [up_put, rw2_put hl]
      refine a_iload_6 rfl rfl ?_
      refine a_iload_8 rfl rfl ?_
      refine a_ixor rfl rfl ?_
      refine a_as (y := bsI 30 (fun j => R j && !decide (j = l))) (by rw [two_shl l (by omega), bs_one (n := 30) (by omega) hl]; exact bs_xor1 R l l1) ?_
      refine a_istore_6 rfl rfl rfl ?_
      refine a_iinc_7 rfl rfl (nI_inc _ _) rfl ?_
      refine a_goto rfl rfl ?_
      have e := ih (i + 1) (fun j => R j && !decide (j = l)) (.int (nI (2 ^ l))) (by omega) (by have := cnt_lt (n := 30) (p := fun j => R j && !decide (j = l)) (q := R) (fun j _ q => by simp at q; exact q.1) l hl (by simp) l1; omega) (fun j hj q => hR j hj (by simp at q; exact q.1)) Z
      refine av_h ?_ e
      refine congrArg (va_up h 10) (rw2_ext fun j hj => ?_)
      unfold va_up
      by_cases c : j = l
      · subst c; simp [hR j hj l1]
      · simp [c]
theorem edg_0 (op : Nat → Bool) (f : Nat) (hf : f < 30) : nI 1 <<< (nI f &&& 31) &&& bsI 30 op = bsI 30 (edg (grow op (sgl (nI f))) 0) := by
  rw [bs_one (n := 30) (by omega) hf, bs_and (by omega)]
  refine bs_ext fun j hj => ?_
  show (decide (j = f) && op j) = ((decide (nI f = nI j) && op j) && decide ((-1 : Int32) = -1))
  have e : decide (j = f) = decide (nI f = nI j) := decide_eq_decide.mpr ⟨fun q => by rw [q], fun q => ((nI_eq (by omega) (by omega)).mp q).symm⟩
  rw [e]
  simp
theorem fk_neg {g : Nat → Nat → Bool} {k j : Nat} (hk : k < 2 ^ 31) (h : fk g (k + 1) j = -1) : g k j = false ∧ fk g k j = -1 := by
  cases c : g k j
  · refine ⟨rfl, ?_⟩
    rw [fk, if_neg (fun q => by rw [c] at q; exact absurd q.1 (by decide))] at h
    exact h
  · exact absurd h (fk_set c hk)
/-- not reached before k: not within k - 1 -/
theorem fk_neg_iff {th p : Nat → Bool} {k j : Nat} (hk : k < 2 ^ 31) : fk (grow th p) (k + 1) j = -1 ↔ grow th p k j = false := by
  constructor
  · exact fun h => (fk_neg hk h).1
  · intro h
    have q : ∀ n, n ≤ k + 1 → fk (grow th p) n j = -1 := by
      intro n
      induction n with
      | zero => intro _; rfl
      | succ n ih =>
        intro hn
        rw [fk, if_neg]
        · exact ih (by omega)
        · intro q
          rw [grow_le (by omega : n ≤ k) q.1] at h
          exact absurd h (by decide)
    exact q (k + 1) (Nat.le_refl _)
theorem edg_s (th p : Nat → Bool) (k j : Nat) (hk : k < 2 ^ 31) : edg (grow th p) (k + 1) j = (grow th p (k + 1) j && !grow th p k j) := by
  unfold edg
  cases c : grow th p k j
  · rw [(fk_neg_iff hk).mpr c]; simp
  · have : ¬ fk (grow th p) (k + 1) j = -1 := fk_set c hk
    simp [this]
theorem nb_mono {p q : Nat → Bool} {j : Nat} (hj : j < 30) (h : ∀ i, i < 30 → p i = true → q i = true) (e : nb p j = true) : nb q j = true := by
  have a : nb (fun i => p i || q i) j = nb q j := nb_ext (fun i hi => by
    cases c : p i
    · rfl
    · rw [h i hi c]; rfl) j hj
  rw [← a, nb_or, e]
  rfl
/-- the next edge -/
theorem edg_n (th p : Nat → Bool) (k : Nat) (hk : k < 2 ^ 31) : bsI 30 (nb (edg (grow th p) k)) &&& bsI 30 (fun j => th j && !grow th p k j) = bsI 30 (edg (grow th p) (k + 1)) := by
  rw [bs_and (by omega)]
  refine bs_ext fun j hj => ?_
  rw [edg_s th p k j hk]
  show _ = (((grow th p k j || nb (grow th p k) j) && th j) && !grow th p k j)
  cases c : grow th p k j
  · cases c2 : th j
    · simp
    · simp only [Bool.false_or, Bool.and_true, Bool.not_false, Bool.true_and]
      cases k with
      | zero =>
        refine nb_ext (fun i hi => ?_) j hj
        unfold edg
        rw [show fk (grow th p) 0 i = -1 from rfl]
        simp
      | succ k =>
        have s1 : ∀ i, i < 30 → grow th p (k + 1) i = (edg (grow th p) (k + 1) i || grow th p k i) := fun i hi => by
          rw [edg_s th p k i (by omega)]
          cases d : grow th p k i
          · simp
          · rw [grow_mono d]; rfl
        rw [nb_ext s1 j hj, nb_or]
        cases d : nb (grow th p k) j
        · simp
        · exact absurd (show grow th p (k + 1) j = true by show ((grow th p k j || nb (grow th p k) j) && th j) = true; rw [d, c2]; simp) (by rw [c]; decide)
  · simp
theorem left_n (th p : Nat → Bool) (k : Nat) (hk : k < 2 ^ 31) : bsI 30 (fun j => th j && !grow th p k j) &&& (bsI 30 (edg (grow th p) (k + 1)) ^^^ (-1)) = bsI 30 (fun j => th j && !grow th p (k + 1) j) := by
  rw [bs_diff (by omega)]
  refine bs_ext fun j hj => ?_
  rw [edg_s th p k j hk]
  cases c : grow th p k j
  · simp
  · rw [grow_mono c]; simp
theorem left_0 (th : Nat → Bool) (f : Nat) (hf : f < 30) : bsI 30 th &&& (bsI 30 (edg (grow th (sgl (nI f))) 0) ^^^ (-1)) = bsI 30 (fun j => th j && !grow th (sgl (nI f)) 0 j) := by
  rw [bs_diff (by omega)]
  refine bs_ext fun j hj => ?_
  unfold edg
  rw [show fk (grow th (sgl (nI f))) 0 j = -1 from rfl]
  simp
theorem edg_fk (g : Nat → Nat → Bool) (k j : Nat) : (if edg g k j then nI k else fk g k j) = fk g (k + 1) j := by
  unfold edg
  rw [fk]
  by_cases c : g k j = true ∧ fk g k j = -1
  · rw [if_pos c]; simp [c.1, c.2]
  · rw [if_neg c]
    by_cases d : g k j = true
    · have e : ¬ fk g k j = -1 := fun q => c ⟨d, q⟩
      simp [e]
    · simp [d]
theorem edg_end {th p : Nat → Bool} {k : Nat} (hk : k < 30) (h : ∀ j, j < 30 → edg (grow th p) k j = false) : ∀ j, j < 30 → fk (grow th p) 30 j = fk (grow th p) k j := by
  have st0 : ∀ j, j < 30 → grow th p k j = true → fk (grow th p) k j ≠ -1 := fun j hj c q => by
    have a := h j hj
    unfold edg at a
    rw [c, q] at a
    exact absurd a (by decide)
  have st : ∀ m, k ≤ m → ∀ j, j < 30 → grow th p m j = grow th p k j := by
    cases k with
    | zero =>
      have z : ∀ j, j < 30 → grow th p 0 j = false := fun j hj => by
        cases c : grow th p 0 j
        · rfl
        · exact absurd rfl (st0 j hj c)
      intro m _ j hj
      rw [grow_empty z m j hj, z j hj]
    | succ k =>
      have z : ∀ j, j < 30 → grow th p (k + 1) j = grow th p k j := fun j hj => by
        have a := h j hj
        rw [edg_s th p k j (by omega)] at a
        cases c : grow th p k j
        · simpa [c] using a
        · exact grow_mono c
      intro m hm j hj
      rw [grow_stay z m (by omega) j hj, z j hj]
  intro j hj
  exact fk_stay (fun m hm hg => st0 j hj (by rw [← st m hm j hj]; exact hg)) 30 (by omega)
theorem l_ms3 (f : Nat) (hf : f < 30) (F : Nat → Int32) (th : Nat → Bool) (m : Nat) : ∀ (k : Nat) (y6 y7 y8 : Value), mvIsL y6 = false → mvIsL y7 = false → k + m = 30 → avA 1 93 81 [.ref 9, .int (nI f), .int (nI (f * 30)), .int (bsI 30 (edg (grow th (sgl (nI f))) k)), .int (bsI 30 (fun j => th j && !grow th (sgl (nI f)) k j)), .int (nI k), y6, y7, y8] [] (sX L t lt rt rp sw (va_up h 10 (rw2 (f * 30) 30 (fk (grow th (sgl (nI f))) k) F)) gl) (none, sX L t lt rt rp sw (va_up h 10 (rw2 (f * 30) 30 (fk (grow th (sgl (nI f))) 30) F)) gl) := by
  induction m with
  | zero =>
    intro k y6 y7 y8 h6 h7 hi
    have e : k = 30 := by omega
    subst e
    refine a_iload_5 rfl rfl ?_
    refine a_bipush (v := (nI 30)) rfl rfl rfl ?_
    refine a_cmpN_ge rfl rfl rfl (by omega) (by omega) (fun _ => ?_) (fun c_85 => absurd c_85 (by decide))
    exact a_vret rfl rfl
  | succ m ih =>
    intro k y6 y7 y8 h6 h7 hi
    refine a_iload_5 rfl rfl ?_
    refine a_bipush (v := (nI 30)) rfl rfl rfl ?_
    refine a_cmpN_ge rfl rfl rfl (by omega) (by omega) (fun c_85 => False.elim (by omega)) (fun _ => ?_)
    refine a_iload_3 rfl rfl ?_
    refine a_if_eq rfl rfl rfl (fun c_89 => ?_) (fun c_89 => ?_)
    · refine av_to (a_vret rfl rfl) ?_
      refine congrArg (fun F' => (none, sX L t lt rt rp sw (va_up h 10 F') gl)) (rw2_ext fun j hj => ?_)
      exact (edg_end (by omega) ((bs_eq0 (by omega) _).mp c_89) j hj).symm
    · refine a_iload_3 rfl rfl ?_
      refine a_istore_6 rfl rfl rfl ?_
      refine a_iconst (v := (nI 0)) rfl rfl rfl ?_
      refine a_istore_7 rfl rfl rfl ?_
      refine av_h (congrArg (va_up h 10) (rw2_ext (Y := fun j => if edg (grow th (sgl (nI f))) k j && !edg (grow th (sgl (nI f))) k j then nI k else fk (grow th (sgl (nI f))) k j) fun j hj => by simp)) (l_ms2 f hf F _ (edg (grow th (sgl (nI f))) k) k (by omega) 30 0 _ _ rfl (cnt_le _ _) (fun _ _ q => q) (fun i8 y8 => ?_))
      refine a_iload_3 rfl rfl ?_
      refine a_statI rfl rfl (e_besides _) (Nat.le_of_ble_eq_true rfl) ⟨rfl, rfl, rfl⟩ rfl rfl rfl (Nat.le_of_ble_eq_true rfl) rfl ?_
      refine a_iload_4 rfl rfl ?_
      refine a_iand rfl rfl ?_
      refine a_as (y := _) (edg_n th (sgl (nI f)) k (by omega)) ?_
      refine a_istore_3 rfl rfl rfl ?_
      refine a_iload_4 rfl rfl ?_
      refine a_iload_3 rfl rfl ?_
      refine a_iconst (v := (-1)) rfl rfl rfl ?_
      refine a_ixor rfl rfl ?_
      refine a_iand rfl rfl ?_
      refine a_as (y := _) (left_n th (sgl (nI f)) k (by omega)) ?_
      refine a_istore_4 rfl rfl rfl ?_
      refine a_iinc_5 rfl rfl (nI_inc _ _) rfl ?_
      refine a_goto rfl rfl ?_
      refine av_h (congrArg (va_up h 10) (rw2_ext fun j hj => edg_fk _ k j)) (ih (k + 1) _ _ _ rfl rfl (by omega))
/-- a cell's row is made, if it wasn't -/
theorem e_measure (f : Nat) (hf : f < 30) (op : Nat → Bool) (hP : rPth op (h 9) (h 10)) : ∃ F G, avE 1 93 [.ref 9, .int (nI f)] (sX L t lt rt rp sw h gl) (none, sX L t lt rt rp sw (va_up (va_up h 9 F) 10 G) gl) ∧ rPth op F G ∧ ∀ c, c < 30 → G (f * 30 + c) = fk (grow op (sgl (nI f))) 30 c := by
  obtain ⟨h0, ms, h1, hr⟩ := hP
  by_cases hm : ms f = true
  · refine ⟨h 9, h 10, ?_, ⟨h0, ms, h1, hr⟩, hr f hf hm⟩
    rw [up_id, up_id]
    show avA _ 93 0 [.ref 9, .int (nI (f)), mvU, mvU, mvU, mvU, mvU, mvU, mvU] [] _ _
    refine a_iload_1 rfl rfl ?_
    refine a_statI rfl rfl (e_isCell (nI f)) (Nat.le_of_ble_eq_true rfl) ⟨rfl, rfl, rfl⟩ rfl rfl rfl (Nat.le_of_ble_eq_true rfl) rfl ?_
    refine a_ifb_eq rfl rfl rfl (fun c_4 => by first | exact absurd c_4 (not_not_intro ⟨by rw [nI_toInt (by omega)]; omega, by rw [nI_toInt (by omega)]; omega⟩) | exact absurd (not_not_intro ⟨by rw [nI_toInt (by omega)]; omega, by rw [nI_toInt (by omega)]; omega⟩) c_4) (fun _ => ?_)
    refine a_aload_0 rfl rfl ?_
    refine a_geti rfl rfl rfl (fun _ _ _ => rfl) ?_
    refine a_as (y := _) h1 ?_
    refine a_iload_1 rfl rfl ?_
    refine a_statI rfl rfl (e_has (bsI 30 ms) f (by omega)) (Nat.le_of_ble_eq_true rfl) ⟨rfl, rfl, rfl⟩ rfl rfl rfl (Nat.le_of_ble_eq_true rfl) rfl ?_
    refine a_ifb_eq rfl rfl rfl (fun c_15 => by first | exact absurd c_15 (not_not_intro (by rw [tb_bs (by omega)]; simp [hm, hf])) | exact absurd (not_not_intro (by rw [tb_bs (by omega)]; simp [hm, hf])) c_15) (fun _ => ?_)
    exact a_vret rfl rfl
  · refine ⟨mvPut h 9 1 (bsI 30 (fun j => ms j || decide (j = f))) 9, rw2 (f * 30) 30 (fk (grow op (sgl (nI f))) 30) (h 10), ?_, ⟨h0, fun j => ms j || decide (j = f), rfl, ?_⟩, fun c hc => rw2_in hc⟩
    · show avA _ 93 0 [.ref 9, .int (nI (f)), mvU, mvU, mvU, mvU, mvU, mvU, mvU] [] _ _
      refine a_iload_1 rfl rfl ?_
      refine a_statI rfl rfl (e_isCell (nI f)) (Nat.le_of_ble_eq_true rfl) ⟨rfl, rfl, rfl⟩ rfl rfl rfl (Nat.le_of_ble_eq_true rfl) rfl ?_
      refine a_ifb_eq rfl rfl rfl (fun c_4 => by first | exact absurd c_4 (not_not_intro ⟨by rw [nI_toInt (by omega)]; omega, by rw [nI_toInt (by omega)]; omega⟩) | exact absurd (not_not_intro ⟨by rw [nI_toInt (by omega)]; omega, by rw [nI_toInt (by omega)]; omega⟩) c_4) (fun _ => ?_)
      refine a_aload_0 rfl rfl ?_
      refine a_geti rfl rfl rfl (fun _ _ _ => rfl) ?_
      refine a_as (y := _) h1 ?_
      refine a_iload_1 rfl rfl ?_
      refine a_statI rfl rfl (e_has (bsI 30 ms) f (by omega)) (Nat.le_of_ble_eq_true rfl) ⟨rfl, rfl, rfl⟩ rfl rfl rfl (Nat.le_of_ble_eq_true rfl) rfl ?_
      refine a_ifb_eq rfl rfl rfl (fun _ => ?_) (fun c_15 => False.elim (by rw [tb_bs (by omega)] at c_15; simp [hm] at c_15))
      refine a_aload_0 rfl rfl ?_
      refine a_dup rfl rfl rfl ?_
      refine a_geti rfl rfl rfl (fun _ _ _ => rfl) ?_
      refine a_as (y := _) h1 ?_
      refine a_iconst (v := (nI 1)) rfl rfl rfl ?_
      refine a_iload_1 rfl rfl ?_
      refine a_ishl rfl rfl ?_
      refine a_ior rfl rfl ?_
      refine a_as (y := bsI 30 (fun j => ms j || decide (j = f))) (by rw [bs_one (n := 30) (by omega) hf, bs_or (by omega)]) ?_
      refine a_puti rfl rfl rfl rfl ?_
      refine a_iload_1 rfl rfl ?_
      refine a_bipush (v := (nI 30)) rfl rfl rfl ?_
      refine a_imulN rfl rfl ?_
      refine a_istore_2 rfl rfl rfl ?_
      refine a_iconst (v := (nI 0)) rfl rfl rfl ?_
      refine a_istore_3 rfl rfl rfl ?_
      refine av_h (h' := va_up (mvPut h 9 1 (bsI 30 (fun j => ms j || decide (j = f)))) 10 (rw2 (f * 30) 0 (fun _ => -1) (h 10))) (by rw [rw2_0]; exact (up_id _ 10).symm) (l_ms1 f hf (h 10) 30 0 rfl ?_)
      refine a_iconst (v := (nI 1)) rfl rfl rfl ?_
      refine a_iload_1 rfl rfl ?_
      refine a_ishl rfl rfl ?_
      refine a_aload_0 rfl rfl ?_
      refine a_geti rfl rfl rfl (fun _ _ _ => rfl) ?_
      refine a_as (y := _) h0 ?_
      refine a_iand rfl rfl ?_
      refine a_as (y := _) (edg_0 op f hf) ?_
      refine a_istore_3 rfl rfl rfl ?_
      refine a_aload_0 rfl rfl ?_
      refine a_geti rfl rfl rfl (fun _ _ _ => rfl) ?_
      refine a_as (y := _) h0 ?_
      refine a_iload_3 rfl rfl ?_
      refine a_iconst (v := (-1)) rfl rfl rfl ?_
      refine a_ixor rfl rfl ?_
      refine a_iand rfl rfl ?_
      refine a_as (y := _) (left_0 op f hf) ?_
      refine a_istore_4 rfl rfl rfl ?_
      refine a_iconst (v := (nI 0)) rfl rfl rfl ?_
      refine a_istore_5 rfl rfl rfl ?_
      exact l_ms3 f hf (h 10) op 30 0 _ _ _ rfl rfl rfl
    · intro f' hf' q c hc
      by_cases e : f' = f
      · subst e; exact rw2_in hc
      · rw [rw2_out (by omega)]
        exact hr f' hf' (by simpa [e] using q) c hc
end RM
