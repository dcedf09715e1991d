/-! STEPS TAKEN BACK -/
def tlA (A : Nat → Int32) (b k : Nat) : Int32 := if k = 0 then A (16 + 5 * b) else if k = 1 then A (17 + 5 * b) else nI 0
def bsA (A : Nat → Int32) (x i : Nat) : Int32 := if (i - 13) / 5 < gN A x then A (x + 6 + 3 * ((i - 13) / 5) + (i - 13) % 5) else tlA A ((i - 13) / 5) ((i - 13) % 5)
def u2A (A B : Nat → Int32) (x n : Nat) : Nat → Int32 := fun i => if 13 ≤ i ∧ i < 38 ∧ (i - 13) % 5 < 3 ∧ (i - 13) / 5 < n then bsA A x i else B i
def u1A (A : Nat → Int32) (x s : Nat) : Nat → Int32 := rw2 8 5 (fun j => A (x + 1 + j)) (va_up A 3 (nI s))
def unB (A : Nat → Int32) (s : Nat) : Nat → Int32 := rw2 1696 30 (fun j => A (166 + 51 * s + 21 + j)) (u2A A (u1A A (166 + 51 * s) s) (166 + 51 * s) (gN A 0))
def unA (A : Nat → Int32) : Nat → Int32 := unB A (gN A 3 - 1)
theorem u2_s (A B : Nat → Int32) (x n : Nat) (hn : n < 5) : va_up (va_up (va_up (u2A A B x n) (13 + 5 * n) (bsA A x (13 + 5 * n))) (14 + 5 * n) (bsA A x (14 + 5 * n))) (15 + 5 * n) (bsA A x (15 + 5 * n)) = u2A A B x (n + 1) := by
  funext i
  by_cases c2 : i = 15 + 5 * n
  · subst c2; rw [va_up_self]; unfold u2A; rw [if_pos (by omega)]
  · rw [va_up_ne _ _ c2]
    by_cases c1 : i = 14 + 5 * n
    · subst c1; rw [va_up_self]; unfold u2A; rw [if_pos (by omega)]
    · rw [va_up_ne _ _ c1]
      by_cases c0 : i = 13 + 5 * n
      · subst c0; rw [va_up_self]; unfold u2A; rw [if_pos (by omega)]
      · rw [va_up_ne _ _ c0]
        unfold u2A
        by_cases q : 13 ≤ i ∧ i < 38 ∧ (i - 13) % 5 < 3 ∧ (i - 13) / 5 < n
        · rw [if_pos q, if_pos (by omega)]
        · rw [if_neg q, if_neg (by omega)]
theorem u2_hi {A B : Nat → Int32} {x n i : Nat} (h : 38 ≤ i ∨ i < 13 ∨ 3 ≤ (i - 13) % 5) : u2A A B x n i = B i := by unfold u2A; rw [if_neg (by omega)]
theorem u1_hi {A : Nat → Int32} {x s i : Nat} (h : 13 ≤ i) : u1A A x s i = A i := by
  unfold u1A
  rw [rw2_out (by omega), va_up_ne _ _ (by omega)]
theorem unB_lo {A : Nat → Int32} {s i : Nat} (h : i < 3 ∨ (3 < i ∧ i < 8) ∨ (38 ≤ i ∧ i < 1696) ∨ (13 ≤ i ∧ i < 1696 ∧ 3 ≤ (i - 13) % 5)) : unB A s i = A i := by
  unfold unB
  rw [rw2_out (by omega), u2_hi (by omega)]
  unfold u1A
  rw [rw2_out (by omega), va_up_ne _ _ (by omega)]
theorem unB_3 {A : Nat → Int32} {s : Nat} : unB A s 3 = nI s := by
  unfold unB
  rw [rw2_out (by omega), u2_hi (by omega)]
  unfold u1A
  rw [rw2_out (by omega), va_up_self]
theorem unB_m {A : Nat → Int32} {s j : Nat} (hj : j < 5) : unB A s (8 + j) = A (166 + 51 * s + 1 + j) := by
  unfold unB
  rw [rw2_out (by omega), u2_hi (by omega)]
  unfold u1A
  rw [rw2_in hj]
theorem unB_b {A : Nat → Int32} {s b k : Nat} (hb : b < 5) (hn : b < gN A 0) (hk : k < 3) : unB A s (13 + 5 * b + k) = if b < gN A (166 + 51 * s) then A (166 + 51 * s + 6 + 3 * b + k) else tlA A b k := by
  unfold unB
  rw [rw2_out (by omega)]
  unfold u2A
  rw [if_pos (by omega)]
  unfold bsA
  rw [show (13 + 5 * b + k - 13) / 5 = b by omega, show (13 + 5 * b + k - 13) % 5 = k by omega]
theorem unB_n {A : Nat → Int32} {s i : Nat} (h1 : 13 ≤ i) (h2 : i < 38) (hn : gN A 0 ≤ (i - 13) / 5) : unB A s i = A i := by
  unfold unB
  rw [rw2_out (by omega)]
  unfold u2A
  rw [if_neg (by omega), u1_hi h1]
theorem unB_k {A : Nat → Int32} {s j : Nat} (hj : j < 30) : unB A s (1696 + j) = A (166 + 51 * s + 21 + j) := by
  unfold unB
  rw [rw2_in hj]
theorem stB_b {b k : Nat} (hb : b < 5) (hk : k < 3) : stB (6 + 3 * b + k) = bnd (13 + 5 * b + k) := by
  match b, hb, k, hk with
  | 0, _, 0, _ => rfl
  | 0, _, 1, _ => rfl
  | 0, _, 2, _ => rfl
  | 1, _, 0, _ => rfl
  | 1, _, 1, _ => rfl
  | 1, _, 2, _ => rfl
  | 2, _, 0, _ => rfl
  | 2, _, 1, _ => rfl
  | 2, _, 2, _ => rfl
  | 3, _, 0, _ => rfl
  | 3, _, 1, _ => rfl
  | 3, _, 2, _ => rfl
  | 4, _, 0, _ => rfl
  | 4, _, 1, _ => rfl
  | 4, _, 2, _ => rfl
theorem unB_OK {A : Nat → Int32} {s : Nat} (hs : s < 30) (H : rOK A) : rOK (unB A s) := by
  intro i hi
  have st : ∀ j, j < 51 → (stB j).1 ≤ (A (166 + 51 * s + j)).toInt ∧ (A (166 + 51 * s + j)).toInt ≤ (stB j).2 := fun j hj => by
    have := H (166 + 51 * s + j) (by omega)
    unfold inB at this
    rw [bd_step hs hj] at this
    exact this
  by_cases c3 : i = 3
  · subst c3; rw [unB_3]; exact inB_nI (m := 30) rfl (by omega) (by omega)
  by_cases c1 : i < 3 ∨ (3 < i ∧ i < 8) ∨ (38 ≤ i ∧ i < 1696) ∨ (13 ≤ i ∧ i < 1696 ∧ 3 ≤ (i - 13) % 5)
  · rw [unB_lo c1]; exact H i hi
  by_cases c2 : i < 13
  · obtain ⟨j, rfl⟩ := Nat.exists_eq_add_of_le (show 8 ≤ i by omega)
    rw [unB_m (by omega), Nat.add_assoc]
    have := st (1 + j) (by omega)
    match j, (show j < 5 by omega) with
    | 0, _ => exact this
    | 1, _ => exact this
    | 2, _ => exact this
    | 3, _ => exact this
    | 4, _ => exact this
  by_cases c4 : 1696 ≤ i
  · obtain ⟨j, rfl⟩ := Nat.exists_eq_add_of_le c4
    rw [unB_k (by omega), Nat.add_assoc]
    have := st (21 + j) (by omega)
    unfold inB
    rw [bd_book]
    unfold stB at this
    rw [if_neg (by omega), if_neg (by omega), if_neg (by omega), if_neg (by omega), if_neg (by omega), if_neg (by omega), if_neg (by omega)] at this
    exact this
  · by_cases cn : (i - 13) / 5 < gN A 0
    · obtain ⟨b, k, hb, hk, rfl⟩ : ∃ b k, b < 5 ∧ k < 3 ∧ i = 13 + 5 * b + k := ⟨(i - 13) / 5, (i - 13) % 5, by omega, by omega, by omega⟩
      rw [unB_b hb (by omega) hk]
      split
      · have := st (6 + 3 * b + k) (by omega)
        rw [stB_b hb hk] at this
        simp only [← Nat.add_assoc] at this
        exact this
      · unfold tlA
        match k, hk with
        | 0, _ =>
          rw [if_pos rfl]
          have := H (16 + 5 * b) (by omega)
          unfold inB at this ⊢
          rw [bd_tat hb] at this
          rw [Nat.add_zero, bd_at hb]
          exact this
        | 1, _ =>
          rw [if_neg (by omega), if_pos rfl]
          have := H (17 + 5 * b) (by omega)
          unfold inB at this ⊢
          rw [bd_tm hb] at this
          rw [show 13 + 5 * b + 1 = 14 + 5 * b by omega, bd_mood hb]
          exact this
        | 2, _ =>
          rw [if_neg (by omega), if_neg (by omega), show 13 + 5 * b + 2 = 15 + 5 * b by omega]
          exact inB_nI (m := 999) (bd_kick hb) (by omega) (by omega)
    · rw [unB_n (by omega) (by omega) (by omega)]
      exact H i hi
/-- beasts told behind a step are as they were told -/
def UI (A : Nat → Int32) : Prop := (∀ b, 1 ≤ gN A 3 → gN A (166 + 51 * (gN A 3 - 1)) ≤ b → b < gN A 0 → A (13 + 5 * b) = A (16 + 5 * b) ∧ A (14 + 5 * b) = A (17 + 5 * b) ∧ A (15 + 5 * b) = nI 0) ∧ (∀ k b, k + 1 < gN A 3 → gN A (166 + 51 * k) ≤ b → b < gN A (166 + 51 * (k + 1)) → A (166 + 51 * (k + 1) + 6 + 3 * b) = A (16 + 5 * b) ∧ A (166 + 51 * (k + 1) + 7 + 3 * b) = A (17 + 5 * b) ∧ A (166 + 51 * (k + 1) + 8 + 3 * b) = nI 0) ∧ ∀ k, k < gN A 3 → gN A (166 + 51 * k) ≤ gN A 0
theorem gN_c {A B : Nat → Int32} {i j : Nat} (e : A i = B j) : gN A i = gN B j := by unfold gN; rw [e]
theorem UI_keep {A : Nat → Int32} (H : rOK A) (U : UI A) : UI (kpA A) := by
  have hn := gN_le (m := 30) H (i := 3) (by omega) (by decide)
  have h0 := gN_le (m := 5) H (i := 0) (by omega) (by decide)
  have cnt : ∀ k, k < 30 → gN A (166 + 51 * k) ≤ 5 := fun k hk => gN_le (m := 5) H (by omega) (by have := bd_step (j := 0) hk (by omega); rw [Nat.add_zero] at this; rw [this]; decide)
  have g3 : gN (kpA A) 3 = if gN A 3 = 30 then 30 else gN A 3 + 1 := gN_nI kpA_3 (by split <;> omega)
  have lo : ∀ i, i < 166 → i ≠ 3 → kpA A i = A i := fun i h1 h2 => kpA_lo (Or.inl h1) h2 hn
  have glo : ∀ i, i < 166 → i ≠ 3 → gN (kpA A) i = gN A i := fun i h1 h2 => by unfold gN; rw [lo i h1 h2]
  have new : ∀ j, j < 51 → kpA A (166 + 51 * (if gN A 3 = 30 then 29 else gN A 3) + j) = stp A j := fun j hj => kpA_new hn hj
  have old : ∀ k j, k < gN A 3 → (gN A 3 = 30 → k < 29) → j < 51 → kpA A (166 + 51 * k + j) = A (166 + 51 * (if gN A 3 = 30 then k + 1 else k) + j) := fun k j h1 h2 h3 => kpA_old hn h1 h2 h3
  have gnew : gN (kpA A) (166 + 51 * (if gN A 3 = 30 then 29 else gN A 3)) = gN A 0 := gN_c (by
    have := new 0 (by omega)
    rw [Nat.add_zero] at this
    exact this)
  have gold : ∀ k, k < gN A 3 → (gN A 3 = 30 → k < 29) → gN (kpA A) (166 + 51 * k) = gN A (166 + 51 * (if gN A 3 = 30 then k + 1 else k)) := fun k h1 h2 => gN_c (by
    have := old k 0 h1 h2 (by omega)
    rw [Nat.add_zero, Nat.add_zero] at this
    exact this)
  refine ⟨fun b hb1 hb2 hb3 => ?_, fun k b hk hb2 hb3 => ?_, fun k hk => ?_⟩
  rotate_right 1
  · rw [g3] at hk
    rw [glo 0 (by omega) (by omega)]
    by_cases e : k = (if gN A 3 = 30 then 29 else gN A 3)
    · rw [e, gnew]; exact Nat.le_refl _
    · have hk1 : k < gN A 3 := by split at e <;> split at hk <;> omega
      rw [gold k hk1 (fun q => by rw [if_pos q] at e hk; omega)]
      by_cases q : gN A 3 = 30
      · rw [if_pos q] at e hk ⊢; exact U.2.2 _ (by omega)
      · rw [if_neg q]; exact U.2.2 _ hk1
  · rw [g3, show (if gN A 3 = 30 then 30 else gN A 3 + 1) - 1 = (if gN A 3 = 30 then 29 else gN A 3) by split <;> omega, gnew] at hb2
    rw [glo 0 (by omega) (by omega)] at hb3
    omega
  · rw [g3] at hk
    by_cases e : k + 1 = (if gN A 3 = 30 then 29 else gN A 3)
    · rw [e, gnew] at hb3
      have hk1 : k < gN A 3 := by split at e <;> omega
      rw [gold k hk1 (fun q => by rw [if_pos q] at e; omega)] at hb2
      have U1 := U.1 b (by omega) (by rw [show gN A 3 - 1 = (if gN A 3 = 30 then k + 1 else k) by split at e <;> rename_i q <;> simp only [q, if_true, if_false] <;> omega]; exact hb2) hb3
      have s6 : stp A (6 + 3 * b) = A (13 + 5 * b) := by unfold stp; rw [if_neg (by omega), if_neg (by omega), if_pos (by omega)]; congr 1; omega
      have s7 : stp A (7 + 3 * b) = A (14 + 5 * b) := by unfold stp; rw [if_neg (by omega), if_neg (by omega), if_pos (by omega)]; congr 1; omega
      have s8 : stp A (8 + 3 * b) = A (15 + 5 * b) := by unfold stp; rw [if_neg (by omega), if_neg (by omega), if_pos (by omega)]; congr 1; omega
      have n6 := new (6 + 3 * b) (by omega)
      have n7 := new (7 + 3 * b) (by omega)
      have n8 := new (8 + 3 * b) (by omega)
      rw [← e] at n6 n7 n8
      simp only [← Nat.add_assoc] at n6 n7 n8 ⊢
      rw [n6, n7, n8, s6, s7, s8, lo _ (by omega) (by omega), lo _ (by omega) (by omega)]
      exact U1
    · have hk1 : k + 1 < gN A 3 := by split at e <;> split at hk <;> omega
      have hk2 : gN A 3 = 30 → k + 1 < 29 := fun q => by rw [if_pos q] at e; rw [if_pos q] at hk; omega
      rw [gold (k + 1) hk1 hk2] at hb3
      rw [gold k (by omega) (fun q => by have := hk2 q; omega)] at hb2
      have c5 := cnt (if gN A 3 = 30 then k + 1 + 1 else k + 1) (by
        by_cases q : gN A 3 = 30
        · rw [if_pos q]; have := hk2 q; omega
        · rw [if_neg q]; omega)
      have U2 := U.2.1 (if gN A 3 = 30 then k + 1 else k) b (by
        by_cases q : gN A 3 = 30
        · rw [if_pos q]; have := hk2 q; omega
        · rw [if_neg q]; omega) hb2 (by
        rw [show (if gN A 3 = 30 then k + 1 else k) + 1 = (if gN A 3 = 30 then k + 1 + 1 else k + 1) by split <;> rfl]
        exact hb3)
      have o6 := old (k + 1) (6 + 3 * b) hk1 hk2 (by omega)
      have o7 := old (k + 1) (7 + 3 * b) hk1 hk2 (by omega)
      have o8 := old (k + 1) (8 + 3 * b) hk1 hk2 (by omega)
      rw [show (if gN A 3 = 30 then k + 1 + 1 else k + 1) = (if gN A 3 = 30 then k + 1 else k) + 1 by split <;> rfl] at o6 o7 o8
      simp only [← Nat.add_assoc] at o6 o7 o8 U2 ⊢
      rw [o6, o7, o8, lo _ (by omega) (by omega), lo _ (by omega) (by omega)]
      exact U2
/-- behind a step only beasts' moments and the like may change -/
theorem UI_of {A A' : Nat → Int32} (U : UI A) (hl : 1 ≤ gN A 3 → gN A 0 ≤ gN A (166 + 51 * (gN A 3 - 1))) (h3 : gN A 3 ≤ 30) (hc : ∀ k, k < 30 → gN A (166 + 51 * k) ≤ 5) (e0 : A' 0 = A 0) (e3 : A' 3 = A 3) (es : ∀ i, 166 ≤ i → i < 1696 → A' i = A i) (et : ∀ b, b < 5 → A' (16 + 5 * b) = A (16 + 5 * b) ∧ A' (17 + 5 * b) = A (17 + 5 * b)) : UI A' := by
  have g0 : gN A' 0 = gN A 0 := by unfold gN; rw [e0]
  have g3 : gN A' 3 = gN A 3 := by unfold gN; rw [e3]
  have gs : ∀ k, k < 30 → gN A' (166 + 51 * k) = gN A (166 + 51 * k) := fun k hk => by unfold gN; rw [es _ (by omega) (by omega)]
  refine ⟨fun b h1 h2 hb => ?_, fun k b h1 h2 hb => ?_, fun k hk => ?_⟩
  rotate_right 1
  · rw [g3] at hk; rw [gs k (by omega), g0]; exact U.2.2 k hk
  · rw [g3] at h1 h2
    rw [gs _ (by omega)] at h2
    have := hl h1
    omega
  · rw [g3] at h1
    rw [gs _ (by omega)] at h2 hb
    have c5 := hc (k + 1) (by omega)
    rw [es (166 + 51 * (k + 1) + 6 + 3 * b) (by omega) (by omega), es (166 + 51 * (k + 1) + 7 + 3 * b) (by omega) (by omega), es (166 + 51 * (k + 1) + 8 + 3 * b) (by omega) (by omega), (et b (by omega)).1, (et b (by omega)).2]
    exact U.2.1 k b h1 h2 hb
theorem UI_undo {A : Nat → Int32} (H : rOK A) (U : UI A) (h1 : 1 ≤ gN A 3) : UI (unA A) := by
  have hn := gN_le (m := 30) H (i := 3) (by omega) (by decide)
  have h0 := gN_le (m := 5) H (i := 0) (by omega) (by decide)
  have cnt : ∀ k, k < 30 → gN A (166 + 51 * k) ≤ 5 := fun k hk => gN_le (m := 5) H (by omega) (by have := bd_step (j := 0) hk (by omega); rw [Nat.add_zero] at this; rw [this]; decide)
  obtain ⟨s, hs⟩ : ∃ s, gN A 3 = s + 1 := ⟨gN A 3 - 1, by omega⟩
  have eu : unA A = unB A s := by unfold unA; rw [hs]; rfl
  rw [eu]
  have g3 : gN (unB A s) 3 = s := gN_nI unB_3 (by omega)
  have g0 : gN (unB A s) 0 = gN A 0 := by unfold gN; rw [unB_lo (by omega)]
  have gs : ∀ k, k < 30 → gN (unB A s) (166 + 51 * k) = gN A (166 + 51 * k) := fun k hk => by unfold gN; rw [unB_lo (by omega)]
  refine ⟨fun b c1 c2 c3 => ?_, fun k b c1 c2 c3 => ?_, fun k hk => ?_⟩
  rotate_right 1
  · rw [g3] at hk; rw [gs k (by omega), g0]; exact U.2.2 k (by omega)
  · rw [g3] at c1 c2
    rw [gs _ (by omega)] at c2
    rw [g0] at c3
    have b0 := unB_b (A := A) (s := s) (b := b) (k := 0) (by omega) c3 (by omega)
    have b1 := unB_b (A := A) (s := s) (b := b) (k := 1) (by omega) c3 (by omega)
    have b2 := unB_b (A := A) (s := s) (b := b) (k := 2) (by omega) c3 (by omega)
    rw [Nat.add_zero] at b0
    rw [show 14 + 5 * b = 13 + 5 * b + 1 by omega, show 15 + 5 * b = 13 + 5 * b + 2 by omega, b0, b1, b2, unB_lo (i := 16 + 5 * b) (by omega), unB_lo (i := 17 + 5 * b) (by omega)]
    by_cases q : b < gN A (166 + 51 * s)
    · rw [if_pos q, if_pos q, if_pos q]
      have U2 := U.2.1 (s - 1) b (by omega) c2 (by rw [show s - 1 + 1 = s by omega]; exact q)
      rw [show s - 1 + 1 = s by omega] at U2
      refine ⟨U2.1, ?_, ?_⟩
      · rw [← U2.2.1]; congr 1; omega
      · rw [← U2.2.2]; congr 1; omega
    · rw [if_neg q, if_neg q, if_neg q]
      exact ⟨rfl, rfl, rfl⟩
  · rw [g3] at c1
    rw [gs _ (by omega)] at c2 c3
    have c5 := cnt (k + 1) (by omega)
    rw [unB_lo (by omega), unB_lo (by omega), unB_lo (by omega), unB_lo (by omega), unB_lo (by omega)]
    exact U.2.1 k b (by omega) c2 c3
section UN
variable {L t : Nat} {lt rt rp : Option Nat} {sw : Bool} {h : Nat → Nat → Int32} {gl : Nat → Nat → Int64} {X : Nat → Int32}
theorem e_unpack (s n : Nat) (hs : s + 52 ≤ 1560) (hn : n ≤ 5) (e4 : h 19 (s + 4) = nI n) : ∃ h', avE 1 119 [.ref 14, .ref 19, .int (nI s)] (sX L t lt rt rp sw h gl) (none, sX L t lt rt rp sw h' gl) ∧ CF [14, 15, 16, 17, 18] h h' ∧ h' 14 0 = h 19 s ∧ h' 14 1 = h 19 (s + 1) ∧ h' 14 2 = h 19 (s + 2) ∧ h' 14 3 = h 19 (s + 3) ∧ h' 14 4 = h 14 4 ∧ h' 14 9 = h 19 (s + 5) ∧ h' 14 10 = h 19 (s + 6) ∧ h' 15 = va_cpy (h 19) (h 15) (s + 7) 0 n ∧ h' 16 = va_cpy (h 19) (h 16) (s + 12) 0 n ∧ h' 17 = va_cpy (h 19) (h 17) (s + 17) 0 n ∧ h' 18 = va_cpy (h 19) (h 18) (s + 22) 0 30 := by
  let h1 : Nat → Nat → Int32 := mvPut (mvPut (mvPut (mvPut (mvPut (mvPut h 14 0 (h 19 s)) 14 1 (h 19 (s + 1))) 14 2 (h 19 (s + 2))) 14 3 (h 19 (s + 3))) 14 9 (h 19 (s + 5))) 14 10 (h 19 (s + 6))
  let h2 : Nat → Nat → Int32 := va_up h1 15 (va_cpy (h1 19) (h1 15) (s + 7) 0 n)
  let h3 : Nat → Nat → Int32 := va_up h2 16 (va_cpy (h2 19) (h2 16) (s + 7 + 5) 0 n)
  let h4 : Nat → Nat → Int32 := va_up h3 17 (va_cpy (h3 19) (h3 17) (s + 7 + 10) 0 n)
  let h5 : Nat → Nat → Int32 := va_up h4 18 (va_cpy (h4 19) (h4 18) (s + 7 + 15) 0 30)
  refine ⟨h5, ?_, CF_up (CF_up (CF_up (CF_up (CF_put (CF_put (CF_put (CF_put (CF_put (CF_put CF_refl rfl) rfl) rfl) rfl) rfl) rfl) rfl) rfl) rfl) rfl, rfl, rfl, rfl, rfl, rfl, rfl, rfl, rfl, ?_, ?_, ?_⟩
  · show avA _ 119 0 [.ref 14, .ref 19, .int (nI (s)), mvU] [] _ _
    refine a_aload_0 rfl rfl ?_
    refine a_aload_1 rfl rfl ?_
    refine a_iload_2 rfl rfl ?_
    refine a_iald rfl rfl (Or.inl rfl) rfl (by omega) (by decide) ?_
    refine a_puti rfl rfl rfl rfl ?_
    refine a_aload_0 rfl rfl ?_
    refine a_aload_1 rfl rfl ?_
    refine a_iload_2 rfl rfl ?_
    refine a_iconst (v := (nI 1)) rfl rfl rfl ?_
    refine a_iaddN rfl rfl ?_
    refine a_iald rfl rfl (Or.inl rfl) rfl (by omega) (by decide) ?_
    refine a_puti rfl rfl rfl rfl ?_
    refine a_aload_0 rfl rfl ?_
    refine a_aload_1 rfl rfl ?_
    refine a_iload_2 rfl rfl ?_
    refine a_iconst (v := (nI 2)) rfl rfl rfl ?_
    refine a_iaddN rfl rfl ?_
    refine a_iald rfl rfl (Or.inl rfl) rfl (by omega) (by decide) ?_
    refine a_puti rfl rfl rfl rfl ?_
    refine a_aload_0 rfl rfl ?_
    refine a_aload_1 rfl rfl ?_
    refine a_iload_2 rfl rfl ?_
    refine a_iconst (v := (nI 3)) rfl rfl rfl ?_
    refine a_iaddN rfl rfl ?_
    refine a_iald rfl rfl (Or.inl rfl) rfl (by omega) (by decide) ?_
    refine a_puti rfl rfl rfl rfl ?_
    refine a_aload_1 rfl rfl ?_
    refine a_iload_2 rfl rfl ?_
    refine a_iconst (v := (nI 4)) rfl rfl rfl ?_
    refine a_iaddN rfl rfl ?_
    refine a_iald rfl rfl (Or.inl rfl) rfl (by omega) (by decide) ?_
    refine a_as (y := iI ((n : Int))) (e4.trans (iI_nat n).symm) ?_
    refine a_iconst (v := (nI 5)) rfl rfl rfl ?_
    refine a_statI rfl rfl (e_clipZ _ 5 (by omega) (by omega)) (Nat.le_of_ble_eq_true rfl) ⟨rfl, rfl, rfl⟩ rfl rfl rfl (Nat.le_of_ble_eq_true rfl) rfl ?_
    refine a_as (y := nI (n)) (congrArg nI (show clN (n : Int) 5 = n by unfold clN; omega)) ?_
    refine a_istore_3 rfl rfl rfl ?_
    refine a_aload_0 rfl rfl ?_
    refine a_aload_1 rfl rfl ?_
    refine a_iload_2 rfl rfl ?_
    refine a_iconst (v := (nI 5)) rfl rfl rfl ?_
    refine a_iaddN rfl rfl ?_
    refine a_iald rfl rfl (Or.inl rfl) rfl (by omega) (by decide) ?_
    refine a_puti rfl rfl rfl rfl ?_
    refine a_aload_0 rfl rfl ?_
    refine a_aload_1 rfl rfl ?_
    refine a_iload_2 rfl rfl ?_
    refine a_bipush (v := (nI 6)) rfl rfl rfl ?_
    refine a_iaddN rfl rfl ?_
    refine a_iald rfl rfl (Or.inl rfl) rfl (by omega) (by decide) ?_
    refine a_puti rfl rfl rfl rfl ?_
    refine a_aload_1 rfl rfl ?_
    refine a_iload_2 rfl rfl ?_
    refine a_bipush (v := (nI 7)) rfl rfl rfl ?_
    refine a_iaddN rfl rfl ?_
    refine a_aload_0 rfl rfl ?_
    refine a_getr rfl rfl rfl (fun _ _ _ => rfl) rfl ?_
    refine a_iconst (v := (nI 0)) rfl rfl rfl ?_
    refine a_iload_3 rfl rfl ?_
    refine a_copy rfl rfl rfl rfl rfl rfl rfl (by omega) (by omega) (by decide) (Nat.le_of_ble_eq_true rfl) ?_
    refine a_aload_1 rfl rfl ?_
    refine a_iload_2 rfl rfl ?_
    refine a_bipush (v := (nI 7)) rfl rfl rfl ?_
    refine a_iaddN rfl rfl ?_
    refine a_iconst (v := (nI 5)) rfl rfl rfl ?_
    refine a_iaddN rfl rfl ?_
    refine a_aload_0 rfl rfl ?_
    refine a_getr rfl rfl rfl (fun _ _ _ => rfl) rfl ?_
    refine a_iconst (v := (nI 0)) rfl rfl rfl ?_
    refine a_iload_3 rfl rfl ?_
    refine a_copy rfl rfl rfl rfl rfl rfl rfl (by omega) (by omega) (by decide) (Nat.le_of_ble_eq_true rfl) ?_
    refine a_aload_1 rfl rfl ?_
    refine a_iload_2 rfl rfl ?_
    refine a_bipush (v := (nI 7)) rfl rfl rfl ?_
    refine a_iaddN rfl rfl ?_
    refine a_bipush (v := (nI 10)) rfl rfl rfl ?_
    refine a_iaddN rfl rfl ?_
    refine a_aload_0 rfl rfl ?_
    refine a_getr rfl rfl rfl (fun _ _ _ => rfl) rfl ?_
    refine a_iconst (v := (nI 0)) rfl rfl rfl ?_
    refine a_iload_3 rfl rfl ?_
    refine a_copy rfl rfl rfl rfl rfl rfl rfl (by omega) (by omega) (by decide) (Nat.le_of_ble_eq_true rfl) ?_
    refine a_aload_1 rfl rfl ?_
    refine a_iload_2 rfl rfl ?_
    refine a_bipush (v := (nI 7)) rfl rfl rfl ?_
    refine a_iaddN rfl rfl ?_
    refine a_bipush (v := (nI 15)) rfl rfl rfl ?_
    refine a_iaddN rfl rfl ?_
    refine a_aload_0 rfl rfl ?_
    refine a_getr rfl rfl rfl (fun _ _ _ => rfl) rfl ?_
    refine a_iconst (v := (nI 0)) rfl rfl rfl ?_
    refine a_bipush (v := (nI 30)) rfl rfl rfl ?_
    refine a_copy rfl rfl rfl rfl rfl rfl rfl (by omega) (by omega) (by decide) (Nat.le_of_ble_eq_true rfl) ?_
    exact a_vret rfl rfl
  · show va_cpy (h 19) (h 16) (s + 7 + 5) 0 n = _
    rw [show s + 7 + 5 = s + 12 by omega]
  · show va_cpy (h 19) (h 17) (s + 7 + 10) 0 n = _
    rw [show s + 7 + 10 = s + 17 by omega]
  · show va_cpy (h 19) (h 18) (s + 7 + 15) 0 30 = _
    rw [show s + 7 + 15 = s + 22 by omega]
theorem cpy0 {f g : Nat → Int32} {sp n j : Nat} (h : j < n) : va_cpy f g sp 0 n j = f (sp + j) := by
  have := cpy_in (f := f) (g := g) (sp := sp) (dp := 0) h
  rw [Nat.zero_add] at this
  exact this
theorem c_undo_T (A : Nat → Int32) (hA : rOK A) (hU : UI A) (hM : MR 14 A h) (hP : PR 11 A h) (h1 : 1 ≤ gN A 3) : ∃ h', avE 3 117 [.ref 7] (sX L t lt rt rp sw h gl) (some (.int (nI (gN A 3 - 1))), sX L t lt rt rp sw h' gl) ∧ CF [11, 14, 15, 16, 17, 18] h h' ∧ (∀ k, k ≠ 5 → h' 11 k = h 11 k) ∧ MR 14 (unA A) h' ∧ BK true 14 (unA A) h' ∧ PR 11 (unA A) h' := by
  obtain ⟨pf, pc, p1, p2, p3, p4, p5, p6⟩ := hP
  obtain ⟨a0, a1, a2, a3, a4, ab⟩ := hM
  obtain ⟨s, rfl⟩ : ∃ s, pc = s + 1 := ⟨pc - 1, by omega⟩
  have eu : unA A = unB A s := by unfold unA; rw [p5]; rfl
  have cnt : ∀ k, k < 30 → gN A (166 + 51 * k) ≤ 5 := fun k hk => gN_le (m := 5) hA (by omega) (by have := bd_step (j := 0) hk (by omega); rw [Nat.add_zero] at this; rw [this]; decide)
  have h0 := gN_le (m := 5) hA (i := 0) (by omega) (by decide)
  obtain ⟨s0, s1, s2, s3, s4, sb, bf, bc, b1, b2, b3, b4, b5, b6⟩ := p6 s (by omega)
  have ec : A (166 + 51 * s) = nI (gN A (166 + 51 * s)) := gN_eq hA (by omega) (by have := bd_step (k := s) (j := 0) (by omega) (by omega); rw [Nat.add_zero] at this; rw [this]; decide)
  obtain ⟨h', C, c, d0, d1, d2, d3, d4, d9, d10, da, dm, dk, ds⟩ := e_unpack (L := L) (t := t) (lt := lt) (rt := rt) (rp := rp) (sw := sw) (gl := gl) (h := mvPut h 11 5 (nI s)) ((pf + s) % 30 * 52) (gN A (166 + 51 * s)) (by omega) (cnt s (by omega)) (s4.trans ec)
  have q11 : h' 11 = va_up (h 11) 5 (nI s) := c 11 rfl
  have Ct : avE 2 118 [.ref 11] (sX L t lt rt rp sw h gl) (some (.int (bI True)), sX L t lt rt rp sw h' gl) := by
    show avA _ 118 0 [.ref 11] [] _ _
    refine a_aload_0 rfl rfl ?_
    refine a_geti rfl rfl rfl (fun _ _ _ => rfl) ?_
    refine a_as (y := nI (s + 1)) p4 ?_
    refine a_ifN_ne rfl rfl rfl (by omega) (fun _ => ?_) (fun c_4 => False.elim (by omega))
    refine a_aload_0 rfl rfl ?_
    refine a_dup rfl rfl rfl ?_
    refine a_geti rfl rfl rfl (fun _ _ _ => rfl) ?_
    refine a_as (y := nI (s + 1)) p4 ?_
    refine a_iconst (v := (nI 1)) rfl rfl rfl ?_
    refine a_isubN rfl rfl (by omega) ?_
    refine a_as (y := nI s) (congrArg nI (by omega)) ?_
    refine a_puti rfl rfl rfl rfl ?_
    refine a_aload_0 rfl rfl ?_
    refine a_getr rfl rfl rfl (fun _ _ _ => rfl) rfl ?_
    refine a_aload_0 rfl rfl ?_
    refine a_getr rfl rfl rfl (fun _ _ _ => rfl) rfl ?_
    refine a_aload_0 rfl rfl ?_
    refine a_geti rfl rfl rfl (fun _ _ _ => rfl) ?_
    refine a_as (y := nI (pf)) p3 ?_
    refine a_aload_0 rfl rfl ?_
    refine a_geti rfl rfl rfl (fun _ _ _ => rfl) ?_
    refine a_as (y := nI (s)) rfl ?_
    refine a_iaddN rfl rfl ?_
    refine a_bipush (v := (nI 30)) rfl rfl rfl ?_
    refine a_iremN rfl rfl (by omega) (by omega) (by omega) ?_
    refine a_bipush (v := (nI 52)) rfl rfl rfl ?_
    refine a_imulN rfl rfl ?_
    refine a_virt0 rfl rfl (C) (Nat.le_of_ble_eq_true rfl) ⟨rfl, rfl, rfl, rfl⟩ rfl rfl rfl (Nat.le_of_ble_eq_true rfl) rfl rfl ?_
    refine a_iconst (v := (nI 1)) rfl rfl rfl ?_
    exact a_zret rfl rfl (Or.inr rfl)
  refine ⟨h', ?_, CF_trans (CF_put CF_refl rfl) (CF_mono (by decide) c), fun k hk => ?_, ?_, ?_, ?_⟩
  · rw [p5]
    show avA _ 117 0 [.ref 7] [] _ _
    refine a_aload_0 rfl rfl ?_
    refine a_getr rfl rfl rfl (fun _ _ _ => rfl) rfl ?_
    refine a_virtI rfl rfl (Ct) (Nat.le_of_ble_eq_true rfl) ⟨rfl, rfl, rfl, rfl⟩ rfl rfl rfl (Nat.le_of_ble_eq_true rfl) rfl rfl ?_
    refine a_ifb_eq rfl rfl rfl (fun c_7 => False.elim (c_7 trivial)) (fun _ => ?_)
    refine a_aload_0 rfl rfl ?_
    refine a_getr rfl rfl rfl (fun _ _ _ => rfl) rfl ?_
    refine a_geti rfl rfl rfl (fun _ _ _ => rfl) ?_
    refine a_as (y := nI (s)) (by rw [q11]; exact va_up_self _ _ _) ?_
    refine a_goto rfl rfl ?_
    refine av_to (a_iret rfl rfl) ?_
    exact congrArg (fun v => (some (Value.int (nI v)), sX L t lt rt rp sw h' gl)) (by omega)
  · rw [q11, va_up_ne _ _ hk]
  · rw [eu]
    have g0 : gN (unB A s) 0 = gN A 0 := by unfold gN; rw [unB_lo (by omega)]
    refine ⟨?_, ?_, ?_, ?_, ?_, fun b hb => ?_⟩
    · rw [d0, show (9 : Nat) = 8 + 1 from rfl, unB_m (by omega)]; exact s0
    · rw [d1, show (10 : Nat) = 8 + 2 from rfl, unB_m (by omega)]; exact s1
    · rw [d2, show (8 : Nat) = 8 + 0 from rfl, unB_m (by omega)]; exact s2
    · rw [d3, show (11 : Nat) = 8 + 3 from rfl, unB_m (by omega)]; exact s3
    · rw [d4, unB_lo (by omega)]; exact a4
    · rw [g0] at hb
      have b0 := unB_b (A := A) (s := s) (b := b) (k := 0) (by omega) hb (by omega)
      have b1 := unB_b (A := A) (s := s) (b := b) (k := 1) (by omega) hb (by omega)
      have b2 := unB_b (A := A) (s := s) (b := b) (k := 2) (by omega) hb (by omega)
      rw [Nat.add_zero] at b0
      show h' 15 b = _ ∧ h' 16 b = _ ∧ h' 17 b = _
      rw [show 14 + 5 * b = 13 + 5 * b + 1 by omega, show 15 + 5 * b = 13 + 5 * b + 2 by omega, b0, b1, b2, da, dm, dk]
      by_cases q : b < gN A (166 + 51 * s)
      · rw [if_pos q, if_pos q, if_pos q, cpy0 q, cpy0 q, cpy0 q]
        obtain ⟨z1, z2, z3⟩ := sb b q
        refine ⟨z1, z2.trans (congrArg A (by omega)), z3.trans (congrArg A (by omega))⟩
      · rw [if_neg q, if_neg q, if_neg q, cpy_out (by omega), cpy_out (by omega), cpy_out (by omega)]
        obtain ⟨u1, u2, u3⟩ := hU.1 b h1 (by rw [p5]; show gN A (166 + 51 * s) ≤ b; omega) hb
        obtain ⟨z1, z2, z3⟩ := ab b hb
        exact ⟨z1.trans u1, z2.trans u2, z3.trans u3⟩
  · rw [eu]
    refine ⟨bf, bc, b1, b2, d9.trans b3, d10.trans b4, fun _ => ⟨?_, fun i hi => ?_⟩⟩
    · unfold gN
      rw [show (12 : Nat) = 8 + 4 from rfl, unB_m (by omega)]
      exact b5
    · show h' 18 _ = _
      rw [ds, cpy0 (by omega), unB_k (by omega)]
      exact b6 i hi
  · rw [eu]
    refine ⟨pf, s, p1, by omega, ?_, ?_, gN_nI unB_3 (by omega), fun k hk => ?_⟩
    · rw [q11, va_up_ne _ _ (by omega)]; exact p3
    · rw [q11, va_up_self]
    · have q19 : h' 19 = h 19 := c 19 rfl
      show SR (h' 19) _ _ _
      rw [q19]
      exact SR_ext (cnt k (by omega)) (fun _ _ => rfl) (fun j hj => unB_lo (by omega)) (p6 k (by omega))
theorem c_undo_F (e5 : h 11 5 = nI 0) : avE 3 117 [.ref 7] (sX L t lt rt rp sw h gl) (some (.int (-1)), sX L t lt rt rp sw h gl) := by
  have Ct : avE 2 118 [.ref 11] (sX L t lt rt rp sw h gl) (some (.int (bI False)), sX L t lt rt rp sw h gl) := by
    show avA _ 118 0 [.ref 11] [] _ _
    refine a_aload_0 rfl rfl ?_
    refine a_geti rfl rfl rfl (fun _ _ _ => rfl) ?_
    refine a_as (y := nI (0)) e5 ?_
    refine a_ifN_ne rfl rfl rfl (by omega) (fun c_4 => False.elim (by omega)) (fun _ => ?_)
    refine a_iconst (v := (nI 0)) rfl rfl rfl ?_
    exact a_zret rfl rfl (Or.inl rfl)
  show avA _ 117 0 [.ref 7] [] _ _
  refine a_aload_0 rfl rfl ?_
  refine a_getr rfl rfl rfl (fun _ _ _ => rfl) rfl ?_
  refine a_virtI rfl rfl (Ct) (Nat.le_of_ble_eq_true rfl) ⟨rfl, rfl, rfl, rfl⟩ rfl rfl rfl (Nat.le_of_ble_eq_true rfl) rfl rfl ?_
  refine a_ifb_eq rfl rfl rfl (fun _ => ?_) (fun c_7 => False.elim (c_7))
  refine a_iconst (v := (-1)) rfl rfl rfl ?_
  exact a_iret rfl rfl
theorem r_begin (b : Nat) (hb : b < 5) : avE 1 192 [.ref 81, .int (nI b)] (sX L t lt rt rp sw (va_up h 82 X) gl) (none, sX L t lt rt rp sw (va_up h 82 (va_up (va_up (va_up X (13 + 5 * b) (X (16 + 5 * b))) (14 + 5 * b) (X (17 + 5 * b))) (15 + 5 * b) (nI 0))) gl) := by
  have g3 : avE 0 187 [.ref 81, .int (nI b), .int (nI 3)] (sX L t lt rt rp sw (va_up h 82 X) gl) (some (.int (X (16 + 5 * b))), sX L t lt rt rp sw (va_up h 82 X) gl) := by
    refine av_eq (r_get b 3 hb (by omega)) ?_
    rw [va_up_self, show 13 + 5 * b + 3 = 16 + 5 * b by omega]
  have p0 : ∀ v, avE 0 191 [.ref 81, .int (nI b), .int (nI 0), .int v] (sX L t lt rt rp sw (va_up h 82 X) gl) (none, sX L t lt rt rp sw (va_up h 82 (va_up X (13 + 5 * b) v)) gl) := by
    intro v
    refine av_eq (r_put b 0 v hb (by omega)) ?_
    rw [up_put, Nat.add_zero]
  have g4 : ∀ v, avE 0 187 [.ref 81, .int (nI b), .int (nI 4)] (sX L t lt rt rp sw (va_up h 82 (va_up X (13 + 5 * b) v)) gl) (some (.int (X (17 + 5 * b))), sX L t lt rt rp sw (va_up h 82 (va_up X (13 + 5 * b) v)) gl) := by
    intro v
    refine av_eq (r_get b 4 hb (by omega)) ?_
    rw [va_up_self, va_up_ne _ _ (by omega), show 13 + 5 * b + 4 = 17 + 5 * b by omega]
  show avA _ 192 0 [.ref 81, .int (nI (b))] [] _ _
  refine a_aload_0 rfl rfl ?_
  refine a_iload_1 rfl rfl ?_
  refine a_iconst (v := (nI 0)) rfl rfl rfl ?_
  refine a_aload_0 rfl rfl ?_
  refine a_iload_1 rfl rfl ?_
  refine a_iconst (v := (nI 3)) rfl rfl rfl ?_
  refine a_virtI rfl rfl (g3) (Nat.le_of_ble_eq_true rfl) ⟨rfl, rfl, rfl, rfl⟩ rfl rfl rfl (Nat.le_of_ble_eq_true rfl) rfl rfl ?_
  refine a_virt0 rfl rfl (p0 _) (Nat.le_of_ble_eq_true rfl) ⟨rfl, rfl, rfl, rfl⟩ rfl rfl rfl (Nat.le_of_ble_eq_true rfl) rfl rfl ?_
  refine a_aload_0 rfl rfl ?_
  refine a_iload_1 rfl rfl ?_
  refine a_iconst (v := (nI 1)) rfl rfl rfl ?_
  refine a_aload_0 rfl rfl ?_
  refine a_iload_1 rfl rfl ?_
  refine a_iconst (v := (nI 4)) rfl rfl rfl ?_
  refine a_virtI rfl rfl (g4 _) (Nat.le_of_ble_eq_true rfl) ⟨rfl, rfl, rfl, rfl⟩ rfl rfl rfl (Nat.le_of_ble_eq_true rfl) rfl rfl ?_
  refine a_virt0 rfl rfl (r_put1 b _ hb) (Nat.le_of_ble_eq_true rfl) ⟨rfl, rfl, rfl, rfl⟩ rfl rfl rfl (Nat.le_of_ble_eq_true rfl) rfl rfl ?_
  refine a_aload_0 rfl rfl ?_
  refine a_iload_1 rfl rfl ?_
  refine a_iconst (v := (nI 2)) rfl rfl rfl ?_
  refine a_iconst (v := (nI 0)) rfl rfl rfl ?_
  refine a_virt0 rfl rfl (r_put2 b _ hb) (Nat.le_of_ble_eq_true rfl) ⟨rfl, rfl, rfl, rfl⟩ rfl rfl rfl (Nat.le_of_ble_eq_true rfl) rfl rfl ?_
  exact a_vret rfl rfl
theorem l_un1 (A : Nat → Int32) (s : Nat) (hs : s < 30) (y3 : Value) (r : Option Value × mvSt) (m : Nat) : ∀ i, i + m = 5 → avA 2 236 67 [.ref 81, .int (nI (166 + 51 * s)), .int (nI 5), y3] [] (sX L t lt rt rp sw (va_up h 82 (rw2 8 5 (fun j => A (166 + 51 * s + 1 + j)) (va_up A 3 (nI s)))) gl) r → avA 2 236 37 [.ref 81, .int (nI (166 + 51 * s)), .int (nI i), y3] [] (sX L t lt rt rp sw (va_up h 82 (rw2 8 i (fun j => A (166 + 51 * s + 1 + j)) (va_up A 3 (nI s)))) gl) r := by
  induction m with
  | zero =>
    intro i hi Z
    have e : i = 5 := by omega
    subst e
    refine a_iload_2 rfl rfl ?_
    refine a_iconst (v := (nI 5)) rfl rfl rfl ?_
    refine a_cmpN_ge rfl rfl rfl (by omega) (by omega) (fun _ => ?_) (fun c_39 => absurd c_39 (by decide))
    exact Z
  | succ m ih =>
    intro i hi Z
    refine a_iload_2 rfl rfl ?_
    refine a_iconst (v := (nI 5)) rfl rfl rfl ?_
    refine a_cmpN_ge rfl rfl rfl (by omega) (by omega) (fun c_39 => False.elim (by omega)) (fun _ => ?_)
    refine a_aload_0 rfl rfl ?_
    refine a_getr rfl rfl rfl (fun _ _ _ => rfl) rfl ?_
    refine a_bipush (v := (nI 8)) rfl rfl rfl ?_
    refine a_iload_2 rfl rfl ?_
    refine a_iaddN rfl rfl ?_
    refine a_aload_0 rfl rfl ?_
    refine a_getr rfl rfl rfl (fun _ _ _ => rfl) rfl ?_
    refine a_iload_1 rfl rfl ?_
    refine a_iconst (v := (nI 1)) rfl rfl rfl ?_
    refine a_iaddN rfl rfl ?_
    refine a_iload_2 rfl rfl ?_
    refine a_iaddN rfl rfl ?_
    refine a_iald rfl rfl (Or.inl rfl) rfl (by omega) (by decide) ?_
    refine a_as (y := A (166 + 51 * s + 1 + i)) (show rw2 8 i (fun j => A (166 + 51 * s + 1 + j)) (va_up A 3 (nI s)) (166 + 51 * s + 1 + i) = A (166 + 51 * s + 1 + i) by rw [rw2_out (by omega), va_up_ne _ _ (by omega)]) ?_
    refine a_iast rfl rfl rfl rfl (by omega) (by decide) ?_
    rw [up_put, rw2_s _ _ _ _ rfl]
    refine a_iinc_2 rfl rfl (nI_inc _ _) rfl ?_
    refine a_goto rfl rfl ?_
    exact ih (i + 1) (by omega) Z
theorem l_un2 (A : Nat → Int32) (hA : rOK A) (s n : Nat) (hs : s < 30) (hn : n ≤ 5) (h0 : A 0 = nI n) (cn : Nat) (hcn : cn ≤ 5) (hc : A (166 + 51 * s) = nI cn) (r : Option Value × mvSt) (m : Nat) : ∀ (b : Nat) (y3 : Value), b + m = n → (∀ y3, avA 2 236 144 [.ref 81, .int (nI (166 + 51 * s)), .int (nI n), y3] [] (sX L t lt rt rp sw (va_up h 82 (u2A A (u1A A (166 + 51 * s) s) (166 + 51 * s) n)) gl) r) → avA 2 236 69 [.ref 81, .int (nI (166 + 51 * s)), .int (nI b), y3] [] (sX L t lt rt rp sw (va_up h 82 (u2A A (u1A A (166 + 51 * s) s) (166 + 51 * s) b)) gl) r := by
  have r0 : ∀ b, u2A A (u1A A (166 + 51 * s) s) (166 + 51 * s) b 0 = nI n := fun b => by
    rw [u2_hi (by omega)]
    unfold u1A
    rw [rw2_out (by omega), va_up_ne _ _ (by omega)]
    exact h0
  have rh : ∀ b i, 38 ≤ i ∨ (13 ≤ i ∧ 3 ≤ (i - 13) % 5) → u2A A (u1A A (166 + 51 * s) s) (166 + 51 * s) b i = A i := fun b i hi => by rw [u2_hi (by omega), u1_hi (by omega)]
  have gc : gN A (166 + 51 * s) = cn := gN_nI hc (by omega)
  induction m with
  | zero =>
    intro b y3 hb Z
    have e : b = n := by omega
    subst e
    refine a_iload_2 rfl rfl ?_
    refine a_aload_0 rfl rfl ?_
    refine a_getr rfl rfl rfl (fun _ _ _ => rfl) rfl ?_
    refine a_iconst (v := (nI 0)) rfl rfl rfl ?_
    refine a_iald rfl rfl (Or.inl rfl) rfl (by omega) (by decide) ?_
    refine a_as (y := nI (b)) (r0 b) ?_
    refine a_cmpN_ge rfl rfl rfl (by omega) (by omega) (fun _ => ?_) (fun c_76 => False.elim (by omega))
    exact Z _
  | succ m ih =>
    intro b y3 hb Z
    have us := u2_s A (u1A A (166 + 51 * s) s) (166 + 51 * s) b (by omega)
    by_cases q : b < cn
    · have bv : ∀ k, k < 3 → bsA A (166 + 51 * s) (13 + 5 * b + k) = A (166 + 51 * s + 6 + 3 * b + k) := fun k hk => by
        unfold bsA
        rw [show (13 + 5 * b + k - 13) / 5 = b by omega, show (13 + 5 * b + k - 13) % 5 = k by omega, gc, if_pos q]
      have us2 : va_up (va_up (va_up (u2A A (u1A A (166 + 51 * s) s) (166 + 51 * s) b) (13 + 5 * b + 0) (A (166 + 51 * s + 6 + 3 * b + 0))) (13 + 5 * b + 1) (A (166 + 51 * s + 6 + 3 * b + 1))) (13 + 5 * b + 2) (A (166 + 51 * s + 6 + 3 * b + 2)) = u2A A (u1A A (166 + 51 * s) s) (166 + 51 * s) (b + 1) := by
        rw [← bv 0 (by omega), ← bv 1 (by omega), ← bv 2 (by omega), show 13 + 5 * b + 1 = 14 + 5 * b by omega, show 13 + 5 * b + 2 = 15 + 5 * b by omega]
        exact us
      have f : ∀ k, k < 3 → ∀ X : Nat → Int32, X (166 + 51 * s) = nI cn → X (166 + 51 * s + 6 + 3 * b + k) = A (166 + 51 * s + 6 + 3 * b + k) → avA 2 236 96 [.ref 81, .int (nI (166 + 51 * s)), .int (nI b), .int (nI (k + 1))] [] (sX L t lt rt rp sw (va_up h 82 (va_up X (13 + 5 * b + k) (A (166 + 51 * s + 6 + 3 * b + k)))) gl) r → avA 2 236 96 [.ref 81, .int (nI (166 + 51 * s)), .int (nI b), .int (nI k)] [] (sX L t lt rt rp sw (va_up h 82 X) gl) r := by
        intro k hk X hX1 hX2 Z2
        have pk := r_put (L := L) (t := t) (lt := lt) (rt := rt) (rp := rp) (sw := sw) (gl := gl) (h := va_up h 82 X) b k (A (166 + 51 * s + 6 + 3 * b + k)) (by omega) (by omega)
        rw [up_put] at pk
        refine a_iload_3 rfl rfl ?_
        refine a_iconst (v := (nI 3)) rfl rfl rfl ?_
        refine a_cmpN_ge rfl rfl rfl (by omega) (by omega) (fun c_98 => False.elim (by omega)) (fun _ => ?_)
        refine a_iload_2 rfl rfl ?_
        refine a_aload_0 rfl rfl ?_
        refine a_getr rfl rfl rfl (fun _ _ _ => rfl) rfl ?_
        refine a_iload_1 rfl rfl ?_
        refine a_iald rfl rfl (Or.inl rfl) rfl (by omega) (by decide) ?_
        refine a_as (y := nI (cn)) hX1 ?_
        refine a_cmpN_ge rfl rfl rfl (by omega) (by omega) (fun c_108 => False.elim (by omega)) (fun _ => ?_)
        refine a_aload_0 rfl rfl ?_
        refine a_iload_2 rfl rfl ?_
        refine a_iload_3 rfl rfl ?_
        refine a_aload_0 rfl rfl ?_
        refine a_getr rfl rfl rfl (fun _ _ _ => rfl) rfl ?_
        refine a_iload_1 rfl rfl ?_
        refine a_bipush (v := (nI 6)) rfl rfl rfl ?_
        refine a_iaddN rfl rfl ?_
        refine a_iconst (v := (nI 3)) rfl rfl rfl ?_
        refine a_iload_2 rfl rfl ?_
        refine a_imulN rfl rfl ?_
        refine a_iaddN rfl rfl ?_
        refine a_iload_3 rfl rfl ?_
        refine a_iaddN rfl rfl ?_
        refine a_iald rfl rfl (Or.inl rfl) rfl (by omega) (by decide) ?_
        refine a_as (y := A (166 + 51 * s + 6 + 3 * b + k)) hX2 ?_
        refine a_virt0 rfl rfl (pk) (Nat.le_of_ble_eq_true rfl) ⟨rfl, rfl, rfl, rfl⟩ rfl rfl rfl (Nat.le_of_ble_eq_true rfl) rfl rfl ?_
        refine a_iinc_3 rfl rfl (nI_inc _ _) rfl ?_
        refine a_goto rfl rfl ?_
        exact Z2
      have Y := ih (b + 1) (.int (nI 3)) (by omega) Z
      rw [← us2] at Y
      have n1 : ∀ (X : Nat → Int32) i v k, 38 ≤ i → k < 3 → va_up X (13 + 5 * b + k) v i = X i := fun X i v k h1 h2 => va_up_ne _ _ (by omega)
      refine a_iload_2 rfl rfl ?_
      refine a_aload_0 rfl rfl ?_
      refine a_getr rfl rfl rfl (fun _ _ _ => rfl) rfl ?_
      refine a_iconst (v := (nI 0)) rfl rfl rfl ?_
      refine a_iald rfl rfl (Or.inl rfl) rfl (by omega) (by decide) ?_
      refine a_as (y := nI (n)) (r0 b) ?_
      refine a_cmpN_ge rfl rfl rfl (by omega) (by omega) (fun c_76 => False.elim (by omega)) (fun _ => ?_)
      refine a_iload_2 rfl rfl ?_
      refine a_aload_0 rfl rfl ?_
      refine a_getr rfl rfl rfl (fun _ _ _ => rfl) rfl ?_
      refine a_iload_1 rfl rfl ?_
      refine a_iald rfl rfl (Or.inl rfl) rfl (by omega) (by decide) ?_
      refine a_as (y := nI (cn)) ((rh b _ (by omega)).trans hc) ?_
      refine a_cmpN_lt rfl rfl rfl (by omega) (by omega) (fun _ => ?_) (fun c_86 => False.elim (by omega))
      refine a_iconst (v := (nI 0)) rfl rfl rfl ?_
      refine a_istore_3 rfl rfl rfl ?_
      refine f 0 (by omega) _ ((rh b _ (by omega)).trans hc) (rh b _ (by omega)) (f 1 (by omega) _ ?_ ?_ (f 2 (by omega) _ ?_ ?_ ?_))
      · rw [n1 _ _ _ _ (by omega) (by omega)]; exact (rh b _ (by omega)).trans hc
      · rw [n1 _ _ _ _ (by omega) (by omega)]; exact rh b _ (by omega)
      · rw [n1 _ _ _ _ (by omega) (by omega), n1 _ _ _ _ (by omega) (by omega)]; exact (rh b _ (by omega)).trans hc
      · rw [n1 _ _ _ _ (by omega) (by omega), n1 _ _ _ _ (by omega) (by omega)]; exact rh b _ (by omega)
      refine a_iload_3 rfl rfl ?_
      refine a_iconst (v := (nI 3)) rfl rfl rfl ?_
      refine a_cmpN_ge rfl rfl rfl (by omega) (by omega) (fun _ => ?_) (fun c_98 => absurd c_98 (by decide))
      refine a_iinc_2 rfl rfl (nI_inc _ _) rfl ?_
      refine a_goto rfl rfl ?_
      exact Y
    · have bv : ∀ k, k < 3 → bsA A (166 + 51 * s) (13 + 5 * b + k) = tlA A b k := fun k hk => by
        unfold bsA
        rw [show (13 + 5 * b + k - 13) / 5 = b by omega, show (13 + 5 * b + k - 13) % 5 = k by omega, gc, if_neg q]
      have v0 : bsA A (166 + 51 * s) (13 + 5 * b) = u2A A (u1A A (166 + 51 * s) s) (166 + 51 * s) b (16 + 5 * b) := (bv 0 (by omega)).trans (rh b _ (by omega)).symm
      have v1 : bsA A (166 + 51 * s) (14 + 5 * b) = u2A A (u1A A (166 + 51 * s) s) (166 + 51 * s) b (17 + 5 * b) := by
        rw [show 14 + 5 * b = 13 + 5 * b + 1 by omega, bv 1 (by omega)]
        exact (rh b _ (by omega)).symm
      have v2 : bsA A (166 + 51 * s) (15 + 5 * b) = nI 0 := by
        rw [show 15 + 5 * b = 13 + 5 * b + 2 by omega, bv 2 (by omega)]
        rfl
      rw [v0, v1, v2] at us
      have Y := ih (b + 1) (.int (nI 0)) (by omega) Z
      refine a_iload_2 rfl rfl ?_
      refine a_aload_0 rfl rfl ?_
      refine a_getr rfl rfl rfl (fun _ _ _ => rfl) rfl ?_
      refine a_iconst (v := (nI 0)) rfl rfl rfl ?_
      refine a_iald rfl rfl (Or.inl rfl) rfl (by omega) (by decide) ?_
      refine a_as (y := nI (n)) (r0 b) ?_
      refine a_cmpN_ge rfl rfl rfl (by omega) (by omega) (fun c_76 => False.elim (by omega)) (fun _ => ?_)
      refine a_iload_2 rfl rfl ?_
      refine a_aload_0 rfl rfl ?_
      refine a_getr rfl rfl rfl (fun _ _ _ => rfl) rfl ?_
      refine a_iload_1 rfl rfl ?_
      refine a_iald rfl rfl (Or.inl rfl) rfl (by omega) (by decide) ?_
      refine a_as (y := nI (cn)) ((rh b _ (by omega)).trans hc) ?_
      refine a_cmpN_lt rfl rfl rfl (by omega) (by omega) (fun c_86 => False.elim (by omega)) (fun _ => ?_)
      refine a_aload_0 rfl rfl ?_
      refine a_iload_2 rfl rfl ?_
      refine a_virt0 rfl rfl (r_begin b (by omega)) (Nat.le_of_ble_eq_true rfl) ⟨rfl, rfl, rfl, rfl⟩ rfl rfl rfl (Nat.le_of_ble_eq_true rfl) rfl rfl ?_
      refine av_h (congrArg (va_up h 82) us) ?_
      refine a_iconst (v := (nI 0)) rfl rfl rfl ?_
      refine a_istore_3 rfl rfl rfl ?_
      refine a_iload_3 rfl rfl ?_
      refine a_iconst (v := (nI 3)) rfl rfl rfl ?_
      refine a_cmpN_ge rfl rfl rfl (by omega) (by omega) (fun c_98 => absurd c_98 (by decide)) (fun _ => ?_)
      refine a_iload_2 rfl rfl ?_
      refine a_aload_0 rfl rfl ?_
      refine a_getr rfl rfl rfl (fun _ _ _ => rfl) rfl ?_
      refine a_iload_1 rfl rfl ?_
      refine a_iald rfl rfl (Or.inl rfl) rfl (by omega) (by decide) ?_
      refine a_as (y := nI (cn)) ((rh (b + 1) _ (by omega)).trans hc) ?_
      refine a_cmpN_ge rfl rfl rfl (by omega) (by omega) (fun _ => ?_) (fun c_108 => False.elim (by omega))
      refine a_iinc_2 rfl rfl (nI_inc _ _) rfl ?_
      refine a_goto rfl rfl ?_
      exact Y
theorem l_un3 (A B : Nat → Int32) (s n : Nat) (hs : s < 30) (hB : ∀ i, 166 ≤ i → i < 1696 → B i = A i) (h3 : B 3 = nI s) (y3 : Value) (m : Nat) : ∀ i, i + m = 30 → avA 2 236 146 [.ref 81, .int (nI (166 + 51 * s)), .int (nI i), y3] [] (sX L t lt rt rp sw (va_up h 82 (rw2 1696 i (fun j => A (166 + 51 * s + 21 + j)) B)) gl) (some (.int (nI s)), sX L t lt rt rp sw (va_up h 82 (rw2 1696 30 (fun j => A (166 + 51 * s + 21 + j)) B)) gl) := by
  induction m with
  | zero =>
    intro i hi
    have e : i = 30 := by omega
    subst e
    refine a_iload_2 rfl rfl ?_
    refine a_bipush (v := (nI 30)) rfl rfl rfl ?_
    refine a_cmpN_ge rfl rfl rfl (by omega) (by omega) (fun _ => ?_) (fun c_149 => absurd c_149 (by decide))
    refine a_aload_0 rfl rfl ?_
    refine a_getr rfl rfl rfl (fun _ _ _ => rfl) rfl ?_
    refine a_iconst (v := (nI 3)) rfl rfl rfl ?_
    refine a_iald rfl rfl (Or.inl rfl) rfl (by omega) (by decide) ?_
    refine a_as (y := nI (s)) (show rw2 1696 30 (fun j => A (166 + 51 * s + 21 + j)) B 3 = nI s by rw [rw2_out (by omega)]; exact h3) ?_
    exact a_iret rfl rfl
  | succ m ih =>
    intro i hi
    refine a_iload_2 rfl rfl ?_
    refine a_bipush (v := (nI 30)) rfl rfl rfl ?_
    refine a_cmpN_ge rfl rfl rfl (by omega) (by omega) (fun c_149 => False.elim (by omega)) (fun _ => ?_)
    refine a_aload_0 rfl rfl ?_
    refine a_getr rfl rfl rfl (fun _ _ _ => rfl) rfl ?_
    refine a_sipush (v := (nI 1696)) rfl rfl rfl ?_
    refine a_iload_2 rfl rfl ?_
    refine a_iaddN rfl rfl ?_
    refine a_aload_0 rfl rfl ?_
    refine a_getr rfl rfl rfl (fun _ _ _ => rfl) rfl ?_
    refine a_iload_1 rfl rfl ?_
    refine a_bipush (v := (nI 21)) rfl rfl rfl ?_
    refine a_iaddN rfl rfl ?_
    refine a_iload_2 rfl rfl ?_
    refine a_iaddN rfl rfl ?_
    refine a_iald rfl rfl (Or.inl rfl) rfl (by omega) (by decide) ?_
    refine a_as (y := A (166 + 51 * s + 21 + i)) (show rw2 1696 i (fun j => A (166 + 51 * s + 21 + j)) B (166 + 51 * s + 21 + i) = A (166 + 51 * s + 21 + i) by rw [rw2_out (by omega)]; exact hB _ (by omega) (by omega)) ?_
    refine a_iast rfl rfl rfl rfl (by omega) (by decide) ?_
    rw [up_put, rw2_s _ _ _ _ rfl]
    refine a_iinc_2 rfl rfl (nI_inc _ _) rfl ?_
    refine a_goto rfl rfl ?_
    exact ih (i + 1) (by omega)
theorem r_undo_T (hA : rOK (h 82)) (h1 : 1 ≤ gN (h 82) 3) : avE 2 236 [.ref 81] (sX L t lt rt rp sw h gl) (some (.int (nI (gN (h 82) 3 - 1))), sX L t lt rt rp sw (va_up h 82 (unA (h 82))) gl) := by
  have hn := gN_le (m := 30) hA (i := 3) (by omega) (by decide)
  obtain ⟨s, hs⟩ : ∃ s, gN (h 82) 3 = s + 1 := ⟨gN (h 82) 3 - 1, by omega⟩
  have e3 : h 82 3 = nI (s + 1) := (gN_eq hA (by omega) (by decide)).trans (by rw [hs])
  have h0 := gN_le (m := 5) hA (i := 0) (by omega) (by decide)
  have e0 : h 82 0 = nI (gN (h 82) 0) := gN_eq hA (by omega) (by decide)
  have bb : (bnd (166 + 51 * s)) = stB 0 := by have := bd_step (k := s) (j := 0) (by omega) (by omega); rw [Nat.add_zero] at this; exact this
  have ec : h 82 (166 + 51 * s) = nI (gN (h 82) (166 + 51 * s)) := gN_eq hA (by omega) (by rw [bb]; decide)
  have hc := gN_le (m := 5) hA (i := 166 + 51 * s) (by omega) (by rw [bb]; decide)
  have eu : unA (h 82) = unB (h 82) s := by unfold unA; rw [hs]; rfl
  rw [hs, eu, show s + 1 - 1 = s by omega]
  have Z2 : u2A (h 82) (u1A (h 82) (166 + 51 * s) s) (166 + 51 * s) 0 = u1A (h 82) (166 + 51 * s) s := by
    funext i
    unfold u2A
    rw [if_neg (by omega)]
  show avA _ 236 0 [.ref 81, mvU, mvU, mvU] [] _ _
  refine a_aload_0 rfl rfl ?_
  refine a_getr rfl rfl rfl (fun _ _ _ => rfl) rfl ?_
  refine a_iconst (v := (nI 3)) rfl rfl rfl ?_
  refine a_iald rfl rfl (Or.inl rfl) rfl (by omega) (by decide) ?_
  refine a_as (y := nI (s + 1)) e3 ?_
  refine a_ifN_ne rfl rfl rfl (by omega) (fun _ => ?_) (fun c_6 => False.elim (by omega))
  refine a_aload_0 rfl rfl ?_
  refine a_getr rfl rfl rfl (fun _ _ _ => rfl) rfl ?_
  refine a_iconst (v := (nI 3)) rfl rfl rfl ?_
  refine a_dup2 rfl rfl rfl ?_
  refine a_iald rfl rfl (Or.inl rfl) rfl (by omega) (by decide) ?_
  refine a_as (y := nI (s + 1)) e3 ?_
  refine a_iconst (v := (nI 1)) rfl rfl rfl ?_
  refine a_isubN rfl rfl (by omega) ?_
  refine a_as (y := nI s) (congrArg nI (by omega)) ?_
  refine a_iast rfl rfl rfl rfl (by omega) (by decide) ?_
  refine a_sipush (v := (nI 166)) rfl rfl rfl ?_
  refine a_bipush (v := (nI 51)) rfl rfl rfl ?_
  refine a_aload_0 rfl rfl ?_
  refine a_getr rfl rfl rfl (fun _ _ _ => rfl) rfl ?_
  refine a_iconst (v := (nI 3)) rfl rfl rfl ?_
  refine a_iald rfl rfl (Or.inl rfl) rfl (by omega) (by decide) ?_
  refine a_as (y := nI (s)) rfl ?_
  refine a_imulN rfl rfl ?_
  refine a_iaddN rfl rfl ?_
  refine a_istore_1 rfl rfl rfl ?_
  refine a_iconst (v := (nI 0)) rfl rfl rfl ?_
  refine a_istore_2 rfl rfl rfl ?_
  refine av_h (h' := va_up h 82 (rw2 8 0 (fun j => h 82 (166 + 51 * s + 1 + j)) (va_up (h 82) 3 (nI s)))) (by rw [rw2_0]; rfl) (l_un1 (h 82) s (by omega) _ _ 5 0 rfl ?_)
  refine a_iconst (v := (nI 0)) rfl rfl rfl ?_
  refine a_istore_2 rfl rfl rfl ?_
  refine av_h (h' := va_up h 82 (u2A (h 82) (u1A (h 82) (166 + 51 * s) s) (166 + 51 * s) 0)) (by rw [Z2]; rfl) (l_un2 (h 82) hA s (gN (h 82) 0) (by omega) h0 e0 (gN (h 82) (166 + 51 * s)) hc ec _ (gN (h 82) 0) 0 _ (by omega) (fun y3 => ?_))
  refine a_iconst (v := (nI 0)) rfl rfl rfl ?_
  refine a_istore_2 rfl rfl rfl ?_
  refine av_h (h' := va_up h 82 (rw2 1696 0 (fun j => h 82 (166 + 51 * s + 21 + j)) (u2A (h 82) (u1A (h 82) (166 + 51 * s) s) (166 + 51 * s) (gN (h 82) 0)))) (by rw [rw2_0]) (l_un3 (h 82) _ s (gN (h 82) 0) (by omega) (fun i h1 h2 => by rw [u2_hi (by omega), u1_hi (by omega)]) (by rw [u2_hi (by omega)]; unfold u1A; rw [rw2_out (by omega), va_up_self]) _ 30 0 rfl)
theorem r_undo_F (e3 : h 82 3 = nI 0) : avE 2 236 [.ref 81] (sX L t lt rt rp sw h gl) (some (.int (-1)), sX L t lt rt rp sw h gl) := by
  show avA _ 236 0 [.ref 81, mvU, mvU, mvU] [] _ _
  refine a_aload_0 rfl rfl ?_
  refine a_getr rfl rfl rfl (fun _ _ _ => rfl) rfl ?_
  refine a_iconst (v := (nI 3)) rfl rfl rfl ?_
  refine a_iald rfl rfl (Or.inl rfl) rfl (by omega) (by decide) ?_
  refine a_as (y := nI (0)) e3 ?_
  refine a_ifN_ne rfl rfl rfl (by omega) (fun c_6 => False.elim (by omega)) (fun _ => ?_)
  refine a_iconst (v := (-1)) rfl rfl rfl ?_
  exact a_iret rfl rfl
end UN
