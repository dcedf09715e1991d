/-! WORDS AS LONGS: what the reference makes of letters -/
def wst (v c : Nat) : Nat := if v / 281474976710656 ≠ 0 then 1152921504606846976 else v * 256 + c
def wv (b : Nat → Nat) (p : Nat) : Nat → Nat
  | 0 => 0
  | n + 1 => wst (wv b p n) (b (p + n))
theorem wv_lo {b : Nat → Nat} {p : Nat} (n : Nat) (hn : n ≤ 7) (hb : ∀ i, i < n → 1 ≤ b (p + i) ∧ b (p + i) < 256) : wv b p n < 256 ^ n ∧ (1 ≤ n → 256 ^ (n - 1) ≤ wv b p n) ∧ ∀ m, n = m + 1 → wv b p n = wv b p m * 256 + b (p + m) := by
  induction n with
  | zero => exact ⟨by show 0 < 1; omega, fun h => by omega, fun m h => by omega⟩
  | succ n ih =>
    obtain ⟨a, c, _⟩ := ih (by omega) (fun i hi => hb i (by omega))
    have q := hb n (by omega)
    have le : (256 : Nat) ^ n ≤ 256 ^ 6 := Nat.pow_le_pow_right (by omega) (by omega)
    have e6 : (256 : Nat) ^ 6 = 281474976710656 := by decide
    have e : wv b p (n + 1) = wv b p n * 256 + b (p + n) := by
      rw [wv, wst, if_neg (by rw [Nat.div_eq_of_lt (by omega)]; simp)]
    have ep : (256 : Nat) ^ (n + 1) = 256 ^ n * 256 := Nat.pow_succ ..
    refine ⟨by rw [e, ep]; omega, fun _ => ?_, fun m hm => ?_⟩
    · rw [e, show n + 1 - 1 = n from rfl]
      by_cases z : n = 0
      · subst z; have : (256 : Nat) ^ 0 = 1 := rfl; omega
      · have := c (by omega)
        have e3 : (256 : Nat) ^ n = 256 ^ (n - 1) * 256 := by rw [← Nat.pow_succ]; congr 1; omega
        omega
    · have : m = n := by omega
      subst this
      exact e
theorem wv_hi {b : Nat → Nat} {p : Nat} (d : Nat) (hb : ∀ i, i < 8 + d → 1 ≤ b (p + i) ∧ b (p + i) < 256) : wv b p (8 + d) = 1152921504606846976 := by
  induction d with
  | zero =>
    obtain ⟨_, c, _⟩ := wv_lo (b := b) (p := p) 7 (by omega) (fun i hi => hb i (by omega))
    have c7 := c (by omega)
    have e6 : (256 : Nat) ^ (7 - 1) = 281474976710656 := by decide
    show wst (wv b p 7) (b (p + 7)) = _
    rw [wst, if_pos]
    have := Nat.div_le_div_right (c := 281474976710656) (show 281474976710656 ≤ wv b p 7 by omega)
    rw [Nat.div_self (by omega)] at this
    omega
  | succ d ih =>
    show wst (wv b p (8 + d)) (b (p + (8 + d))) = _
    rw [ih (fun i hi => hb i (by omega)), wst, if_pos (by decide)]
theorem wv_inj {b b' : Nat → Nat} {p p' : Nat} (n : Nat) : ∀ n', n ≤ 7 → n' ≤ 7 → (∀ i, i < n → 1 ≤ b (p + i) ∧ b (p + i) < 256) → (∀ i, i < n' → 1 ≤ b' (p' + i) ∧ b' (p' + i) < 256) → wv b p n = wv b' p' n' → n = n' ∧ ∀ i, i < n → b (p + i) = b' (p' + i) := by
  induction n with
  | zero =>
    intro n' _ hn' _ hb' e
    match n' with
    | 0 => exact ⟨rfl, fun i hi => by omega⟩
    | m + 1 =>
      have := (wv_lo (b := b') (p := p') (m + 1) hn' hb').2.1 (by omega)
      have e0 : wv b p 0 = 0 := rfl
      have : 0 < (256 : Nat) ^ (m + 1 - 1) := Nat.pow_pos (by omega)
      omega
  | succ n ih =>
    intro n' hn hn' hb hb' e
    match n' with
    | 0 =>
      have := (wv_lo (b := b) (p := p) (n + 1) hn hb).2.1 (by omega)
      have e0 : wv b' p' 0 = 0 := rfl
      have : 0 < (256 : Nat) ^ (n + 1 - 1) := Nat.pow_pos (by omega)
      omega
    | m + 1 =>
      have x := (wv_lo (b := b) (p := p) (n + 1) hn hb).2.2 n rfl
      have y := (wv_lo (b := b') (p := p') (m + 1) hn' hb').2.2 m rfl
      have q1 := hb n (by omega)
      have q2 := hb' m (by omega)
      obtain ⟨i1, i2⟩ := ih m (by omega) (by omega) (fun i hi => hb i (by omega)) (fun i hi => hb' i (by omega)) (by omega)
      subst i1
      refine ⟨rfl, fun i hi => ?_⟩
      by_cases c : i = n
      · subst c; omega
      · exact i2 i (by omega)
theorem wn_6 : ∀ w, w < 31 → wn w ≤ 6 := by decide +kernel
theorem wb_pos : ∀ w, w < 31 → ∀ i, i < wn w → 1 ≤ WB (WS w + i) ∧ WB (WS w + i) < 256 := by decide +kernel
/-- the long of a word -/
abbrev wW (w : Nat) : Nat := wv (fun i => WB i) (WS w) (wn w)
theorem isW_iff (b : Nat → Nat) (p q w : Nat) : isW b p q w = true ↔ wn w = q - p ∧ ∀ i, i < wn w → WB (WS w + i) = b (p + i) := by
  unfold isW
  rw [Bool.and_eq_true, List.all_eq_true, decide_eq_true_iff]
  constructor
  · rintro ⟨a, c⟩
    exact ⟨a, fun i hi => of_decide_eq_true (c i (List.mem_range.mpr hi))⟩
  · rintro ⟨a, c⟩
    exact ⟨a, fun i hi => decide_eq_true (c i (List.mem_range.mp hi))⟩
theorem wW_iff {b : Nat → Nat} {p q w : Nat} (hw : w < 31) (hb : ∀ i, i < q - p → 1 ≤ b (p + i) ∧ b (p + i) < 256) : wv b p (q - p) = wW w ↔ isW b p q w = true := by
  rw [isW_iff]
  have w6 := wn_6 w hw
  have wp := wb_pos w hw
  by_cases c : q - p ≤ 7
  · constructor
    · intro e
      obtain ⟨i1, i2⟩ := wv_inj (q - p) (wn w) c (by omega) hb wp e
      exact ⟨i1.symm, fun i hi => (i2 i (by omega)).symm⟩
    · rintro ⟨i1, i2⟩
      rw [← i1]
      have G : ∀ n, n ≤ wn w → wv b p n = wv (fun i => WB i) (WS w) n := by
        intro n
        induction n with
        | zero => intro _; rfl
        | succ n ih => intro hn; rw [wv, wv, ih (by omega), i2 n (by omega)]
      exact G _ (Nat.le_refl _)
  · constructor
    · intro e
      rw [show q - p = 8 + (q - p - 8) by omega, wv_hi _ (fun i hi => hb i (by omega))] at e
      have := (wv_lo (b := fun i => WB i) (p := WS w) (wn w) (by omega) wp).1
      have : (256 : Nat) ^ (wn w) ≤ 256 ^ 6 := Nat.pow_le_pow_right (by omega) w6
      have e6 : (256 : Nat) ^ 6 = 281474976710656 := by decide
      have e' : 1152921504606846976 = wv (fun i => WB i) (WS w) (wn w) := e
      omega
    · rintro ⟨i1, _⟩
      omega
theorem wd_un : ∀ w, w < 31 → ∀ w', w' < 31 → wW w = wW w' → w = w' := by decide +kernel
theorem wcF_iff {b : Nat → Nat} {p q : Nat} (hb : ∀ i, i < q - p → 1 ≤ b (p + i) ∧ b (p + i) < 256) (n : Nat) : ∀ w c, w + n = 31 → w ≤ c → c < 31 → (wcF b p q n w = c ↔ isW b p q c = true) := by
  induction n with
  | zero => intro w c hw h1 h2; omega
  | succ n ih =>
    intro w c hw h1 h2
    rw [wcF]
    by_cases d : isW b p q w = true
    · rw [if_pos d]
      constructor
      · intro e; rw [← e]; exact d
      · intro e
        exact wd_un w (by omega) c h2 (((wW_iff (by omega) hb).mpr d).symm.trans ((wW_iff h2 hb).mpr e))
    · rw [if_neg d]
      by_cases e : w = c
      · subst e
        refine ⟨fun x => ?_, fun x => absurd x d⟩
        exfalso
        have G : ∀ n w', w' + n = 31 → w < w' → wcF b p q n w' ≠ w := by
          intro n
          induction n with
          | zero => intro w' _ _; show 47 ≠ w; omega
          | succ n ih2 =>
            intro w' h3 h4
            rw [wcF]
            split
            · omega
            · exact ih2 (w' + 1) (by omega) (by omega)
        exact G n (w + 1) (by omega) (by omega) x
      · exact ih (w + 1) c (by omega) (by omega) h2
/-- a word's long tells its code -/
theorem wv_wc {b : Nat → Nat} {p q c : Nat} (hc : c < 31) (hb : ∀ i, i < q - p → 1 ≤ b (p + i) ∧ b (p + i) < 256) : wv b p (q - p) = wW c ↔ wc b p q = c := by
  rw [wW_iff hc hb]
  exact (wcF_iff hb 31 0 c rfl (by omega) hc).symm
