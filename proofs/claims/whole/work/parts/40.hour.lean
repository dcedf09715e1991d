/-! AN HOUR: the cells of the reference and their bounds; what an hour does, by the class -/
def gN (A : Nat → Int32) (i : Nat) : Nat := (A i).toInt.toNat
def stB (j : Nat) : Int × Int := if j = 0 then (0, 5) else if j = 1 then (0, 9999) else if j = 2 then (-1, 29) else if j = 3 then (0, 9999) else if j = 4 then (0, 30558) else if j = 5 then (0, 30) else if j < 21 then (if (j - 6) % 3 = 0 then (0, 29) else if (j - 6) % 3 = 1 then (0, 9) else (0, 999)) else (0, 1279999)
def bnd (i : Nat) : Int × Int := if i < 13 then (match i with
    | 0 => (0, 5)
    | 1 => (0, 4)
    | 2 => (-1, 3)
    | 3 => (0, 30)
    | 4 => (0, 6)
    | 5 => (0, 6)
    | 6 => (0, 8)
    | 7 => (0, 8)
    | 8 => (0, 9999)
    | 9 => (-1, 29)
    | 10 => (0, 9999)
    | 11 => (0, 30558)
    | _ => (0, 30))
  else if i < 38 then (if (i - 13) % 5 = 0 then (0, 29) else if (i - 13) % 5 = 1 then (0, 9) else if (i - 13) % 5 = 2 then (0, 999) else if (i - 13) % 5 = 3 then (0, 29) else (0, 9))
  else if i < 68 then (0, 3) else if i < 98 then (0, 9) else if i < 138 then (0, if i % 2 = 0 then 29 else 15) else if i < 150 then (-99, 99) else if i < 166 then (0, if i % 2 = 0 then 29 else 15)
  else if i < 1696 then stB ((i - 166) % 51) else (0, 1279999)
abbrev inB (i : Nat) (v : Int32) : Prop := (bnd i).1 ≤ v.toInt ∧ v.toInt ≤ (bnd i).2
def rOK (A : Nat → Int32) : Prop := ∀ i, i < 1726 → inB i (A i)
theorem rOK_up {A : Nat → Int32} {i : Nat} {v : Int32} (H : rOK A) (hv : inB i v) : rOK (va_up A i v) := by
  intro j hj
  by_cases e : j = i
  · subst e; rw [va_up_self]; exact hv
  · rw [va_up_ne _ _ e]; exact H j hj
theorem gN_eq {A : Nat → Int32} {i : Nat} (H : rOK A) (hi : i < 1726) (h0 : 0 ≤ (bnd i).1) : A i = nI (gN A i) := int_nI (Int.le_trans h0 (H i hi).1)
theorem gN_le {A : Nat → Int32} {i m : Nat} (H : rOK A) (hi : i < 1726) (h0 : (bnd i).2 ≤ (m : Int)) : gN A i ≤ m := by
  have := (H i hi).2
  unfold gN
  omega
theorem gN_nI {A : Nat → Int32} {i k : Nat} (e : A i = nI k) (hk : k < 2 ^ 31) : gN A i = k := by
  unfold gN
  rw [e, nI_toInt hk]
  rfl
theorem bd_at {b : Nat} (hb : b < 5) : bnd (13 + 5 * b) = (0, 29) := by
  match b, hb with
  | 0, _ => rfl
  | 1, _ => rfl
  | 2, _ => rfl
  | 3, _ => rfl
  | 4, _ => rfl
theorem bd_mood {b : Nat} (hb : b < 5) : bnd (14 + 5 * b) = (0, 9) := by
  match b, hb with
  | 0, _ => rfl
  | 1, _ => rfl
  | 2, _ => rfl
  | 3, _ => rfl
  | 4, _ => rfl
theorem bd_kick {b : Nat} (hb : b < 5) : bnd (15 + 5 * b) = (0, 999) := by
  match b, hb with
  | 0, _ => rfl
  | 1, _ => rfl
  | 2, _ => rfl
  | 3, _ => rfl
  | 4, _ => rfl
theorem bd_tat {b : Nat} (hb : b < 5) : bnd (16 + 5 * b) = (0, 29) := by
  match b, hb with
  | 0, _ => rfl
  | 1, _ => rfl
  | 2, _ => rfl
  | 3, _ => rfl
  | 4, _ => rfl
theorem bd_tm {b : Nat} (hb : b < 5) : bnd (17 + 5 * b) = (0, 9) := by
  match b, hb with
  | 0, _ => rfl
  | 1, _ => rfl
  | 2, _ => rfl
  | 3, _ => rfl
  | 4, _ => rfl
theorem bd_kind {c : Nat} (hc : c < 30) : bnd (38 + c) = (0, 3) := by
  unfold bnd
  rw [if_neg (by omega), if_neg (by omega), if_pos (by omega)]
theorem bd_height {c : Nat} (hc : c < 30) : bnd (68 + c) = (0, 9) := by
  unfold bnd
  rw [if_neg (by omega), if_neg (by omega), if_neg (by omega), if_pos (by omega)]
theorem bd_gain {c : Nat} (hc : c < 12) : bnd (138 + c) = (-99, 99) := by
  unfold bnd
  rw [if_neg (by omega), if_neg (by omega), if_neg (by omega), if_neg (by omega), if_neg (by omega), if_pos (by omega)]
theorem bd_book {c : Nat} : bnd (1696 + c) = (0, 1279999) := by
  unfold bnd
  rw [if_neg (by omega), if_neg (by omega), if_neg (by omega), if_neg (by omega), if_neg (by omega), if_neg (by omega), if_neg (by omega), if_neg (by omega)]
theorem bd_step {k j : Nat} (hk : k < 30) (hj : j < 51) : bnd (166 + 51 * k + j) = stB j := by
  unfold bnd
  rw [if_neg (by omega), if_neg (by omega), if_neg (by omega), if_neg (by omega), if_neg (by omega), if_neg (by omega), if_neg (by omega), if_pos (by omega), show (166 + 51 * k + j - 166) % 51 = j by omega]
theorem rOK_clOK {A : Nat → Int32} (H : rOK A) : clOK A := by
  intro c hc
  have h1 := H (38 + c) (by omega)
  have h2 := H (68 + c) (by omega)
  unfold inB at h1 h2
  rw [bd_kind hc] at h1
  rw [bd_height hc] at h2
  dsimp only at h1 h2
  exact ⟨⟨_, by omega, int_nI h1.1⟩, ⟨_, by omega, int_nI h2.1⟩⟩
/-! what an hour does -/
def drA (A : Nat → Int32) : Nat → Int32 := va_up A 11 (nI ((gN A 11 * 439 + 317) % 30559))
def wrA (v : Int32) (A : Nat → Int32) : Nat → Int32 := if gN A 12 = 30 then rw2 1696 30 (fun j => if j = 29 then v else A (1697 + j)) A else va_up (va_up A (1696 + gN A 12) v) 12 (nI (gN A 12 + 1))
def k3A (b : Nat) (B : Nat → Int32) : Nat → Int32 := va_up (va_up (va_up B (14 + 5 * b) (nI (min 9 (gN B (14 + 5 * b) + 1)))) (15 + 5 * b) (nI (min 999 (gN B (15 + 5 * b) + 1)))) 10 (nI (gN B 10 - 1))
def kkA (wr : Bool) (lg b : Nat) (B : Nat → Int32) : Nat → Int32 := bif wr then wrA (nI ((gN B 8 * 8 + b) * 16 + lg)) (k3A b B) else k3A b B
def mdA (b : Nat) (B : Nat → Int32) : Nat → Int32 := va_up B (14 + 5 * b) (nI (gN B (14 + 5 * b) - 1))
def lvA (wr : Bool) (k lg b : Nat) (A : Nat → Int32) : Nat → Int32 := if gN A 11 % 10 < k then kkA wr lg b (drA A) else mdA b (drA A)
def lvR (wr : Bool) (kf lf : (Nat → Int32) → Nat → Nat) : Nat → Nat → (Nat → Int32) → Nat → (Nat → Int32) × Nat
  | 0, _, B, kk => (B, kk)
  | j + 1, b, B, kk => lvR wr kf lf j (b + 1) (lvA wr (kf B b) (lf B b) b B) (kk + (if gN B 11 % 10 < kf B b then 1 else 0))
def kfA (fl : Nat → Option (E1 → Int)) (A : Nat → Int32) : (Nat → Int32) → Nat → Nat := fun B b => kcV fl A (gN A 8) (szN (gN A 8)) (A 9) (B (14 + 5 * b)) (B (13 + 5 * b)) b
def lfA (fl : Nat → Option (E1 → Int)) (A : Nat → Int32) : (Nat → Int32) → Nat → Nat := fun B b => ltC (fl 0) A (gN A 8) (szN (gN A 8)) (A 9) (B (13 + 5 * b))
def p1A (fl : Nat → Option (E1 → Int)) (A : Nat → Int32) : Nat → Int32 := if A 9 = -1 then A else va_up A 10 (nI (min 9999 (gN A 10 + pyV fl A (gN A 8) (szN (gN A 8)) (A 9) (A 10).toInt)))
def p2A (wr : Bool) (fl : Nat → Option (E1 → Int)) (A : Nat → Int32) : (Nat → Int32) × Nat := lvR wr (kfA fl A) (lfA fl A) (gN A 0) 0 (p1A fl A) 0
def psA (wr : Bool) (fl : Nat → Option (E1 → Int)) (A : Nat → Int32) : (Nat → Int32) × Nat := (va_up (p2A wr fl A).1 8 (nI (gN A 8 + 1)), (p2A wr fl A).2)
theorem szN_le (x : Nat) : szN x ≤ 15 := by unfold szN; split <;> omega
theorem wrA_lo {v : Int32} {A : Nat → Int32} {i : Nat} (h1 : i < 1696) (h2 : i ≠ 12) : wrA v A i = A i := by
  unfold wrA
  split
  · exact rw2_out (by omega)
  · rw [va_up_ne _ _ h2, va_up_ne _ _ (by omega)]
theorem gN_ne {A : Nat → Int32} {i j : Nat} {v : Int32} (h : j ≠ i) : gN (va_up A i v) j = gN A j := by
  unfold gN
  rw [va_up_ne _ _ h]
theorem drA_ne {A : Nat → Int32} {i : Nat} (h : i ≠ 11) : drA A i = A i := va_up_ne _ _ h
theorem k3A_ne {B : Nat → Int32} {i b : Nat} (h1 : i ≠ 14 + 5 * b) (h2 : i ≠ 15 + 5 * b) (h3 : i ≠ 10) : k3A b B i = B i := by
  unfold k3A
  rw [va_up_ne _ _ h3, va_up_ne _ _ h2, va_up_ne _ _ h1]
theorem k3A_md {B : Nat → Int32} {b : Nat} : k3A b B (14 + 5 * b) = nI (min 9 (gN B (14 + 5 * b) + 1)) := by
  unfold k3A
  rw [va_up_ne _ _ (by omega), va_up_ne _ _ (by omega), va_up_self]
theorem k3A_kk {B : Nat → Int32} {b : Nat} : k3A b B (15 + 5 * b) = nI (min 999 (gN B (15 + 5 * b) + 1)) := by
  unfold k3A
  rw [va_up_ne _ _ (by omega), va_up_self]
theorem k3A_si {B : Nat → Int32} {b : Nat} : k3A b B 10 = nI (gN B 10 - 1) := by
  unfold k3A
  rw [va_up_self]
theorem kkA_lo {wr : Bool} {lg b : Nat} {B : Nat → Int32} {i : Nat} (h1 : i < 1696) (h2 : i ≠ 12) : kkA wr lg b B i = k3A b B i := by
  unfold kkA
  cases wr
  · rfl
  · exact wrA_lo h1 h2
theorem inB_nI {i k m : Nat} (hb : bnd i = (0, (m : Int))) (hk : k ≤ m) (hm : m < 2 ^ 31) : inB i (nI k) := by
  unfold inB
  rw [hb, nI_toInt (by omega)]
  dsimp only
  omega
theorem drA_OK {A : Nat → Int32} (H : rOK A) : rOK (drA A) := rOK_up H (inB_nI (m := 30558) rfl (by omega) (by omega))
theorem k3A_OK {A : Nat → Int32} {b : Nat} (hb : b < 5) (H : rOK A) : rOK (k3A b A) := by
  have h10 := gN_le (m := 9999) H (i := 10) (by omega) (by decide)
  exact rOK_up (rOK_up (rOK_up H (inB_nI (m := 9) (bd_mood hb) (by omega) (by omega))) (inB_nI (m := 999) (bd_kick hb) (by omega) (by omega))) (inB_nI (m := 9999) rfl (by omega) (by omega))
theorem mdA_OK {A : Nat → Int32} {b : Nat} (hb : b < 5) (H : rOK A) : rOK (mdA b A) := by
  have h10 := gN_le (m := 9) H (i := 14 + 5 * b) (by omega) (by rw [bd_mood hb]; decide)
  exact rOK_up H (inB_nI (m := 9) (bd_mood hb) (by omega) (by omega))
theorem wrA_OK {A : Nat → Int32} {v : Nat} (hv : v ≤ 1279999) (H : rOK A) : rOK (wrA (nI v) A) := by
  have h12 := gN_le (m := 30) H (i := 12) (by omega) (by decide)
  unfold wrA
  split
  · intro i hi
    by_cases c : 1696 ≤ i
    · obtain ⟨j, rfl⟩ := Nat.exists_eq_add_of_le c
      rw [rw2_in (by omega)]
      by_cases c2 : j = 29
      · rw [if_pos c2]
        exact inB_nI (m := 1279999) bd_book hv (by omega)
      · rw [if_neg c2]
        have := H (1697 + j) (by omega)
        unfold inB at this ⊢
        rw [show 1697 + j = 1696 + (j + 1) by omega, bd_book] at this
        rw [bd_book, show 1697 + j = 1696 + (j + 1) by omega]
        exact this
    · rw [rw2_out (by omega)]
      exact H i hi
  · exact rOK_up (rOK_up H (inB_nI (m := 1279999) bd_book hv (by omega))) (inB_nI (m := 30) rfl (by omega) (by omega))
theorem kkA_OK {A : Nat → Int32} {wr : Bool} {lg b : Nat} (hb : b < 5) (hl : lg ≤ 15) (H : rOK A) : rOK (kkA wr lg b A) := by
  have h8 := gN_le (m := 9999) H (i := 8) (by omega) (by decide)
  unfold kkA
  cases wr
  · exact k3A_OK hb H
  · exact wrA_OK (by omega) (k3A_OK hb H)
theorem lvA_OK {A : Nat → Int32} {wr : Bool} {k lg b : Nat} (hb : b < 5) (hl : lg ≤ 15) (H : rOK A) : rOK (lvA wr k lg b A) := by
  unfold lvA
  split
  · exact kkA_OK hb hl (drA_OK H)
  · exact mdA_OK hb (drA_OK H)
/-- what an hour leaves as it is -/
theorem lvA_lo {A : Nat → Int32} {wr : Bool} {k lg b i : Nat} (h1 : i < 1696) (h2 : i ≠ 12) (h3 : i ≠ 11) (h4 : i ≠ 10) (h5 : i ≠ 14 + 5 * b) (h6 : i ≠ 15 + 5 * b) : lvA wr k lg b A i = A i := by
  unfold lvA
  split
  · rw [kkA_lo h1 h2, k3A_ne h5 h6 h4, drA_ne h3]
  · unfold mdA
    rw [va_up_ne _ _ h5, drA_ne h3]
/-- a moment of the class holds what the reference's cells hold -/
def MR (m : Nat) (A : Nat → Int32) (h : Nat → Nat → Int32) : Prop := h m 0 = A 9 ∧ h m 1 = A 10 ∧ h m 2 = A 8 ∧ h m 3 = A 11 ∧ h m 4 = A 0 ∧ ∀ b, b < gN A 0 → h (m + 1) b = A (13 + 5 * b) ∧ h (m + 2) b = A (14 + 5 * b) ∧ h (m + 3) b = A (15 + 5 * b)
def BK (wr : Bool) (m : Nat) (A : Nat → Int32) (h : Nat → Nat → Int32) : Prop := ∃ bf bc : Nat, bf < 30 ∧ bc ≤ 30 ∧ h m 9 = nI bf ∧ h m 10 = nI bc ∧ (wr = true → gN A 12 = bc ∧ ∀ i, i < bc → h (m + 4) ((bf + i) % 30) = A (1696 + i))
theorem MR_draw {m : Nat} {B : Nat → Int32} {h h' : Nat → Nat → Int32} (H : MR m B h) (e0 : ∀ k, k ≠ 3 → k < 5 → h' m k = h m k) (e3 : h' m 3 = nI ((gN B 11 * 439 + 317) % 30559)) (ea : h' (m + 1) = h (m + 1)) (em : h' (m + 2) = h (m + 2)) (ek : h' (m + 3) = h (m + 3)) : MR m (drA B) h' := by
  obtain ⟨a0, a1, a2, a3, a4, ab⟩ := H
  refine ⟨?_, ?_, ?_, ?_, ?_, fun b hb => ?_⟩
  · rw [e0 0 (by omega) (by omega), drA_ne (by omega)]; exact a0
  · rw [e0 1 (by omega) (by omega), drA_ne (by omega)]; exact a1
  · rw [e0 2 (by omega) (by omega), drA_ne (by omega)]; exact a2
  · rw [e3]; exact (va_up_self _ _ _).symm
  · rw [e0 4 (by omega) (by omega), drA_ne (by omega)]; exact a4
  · have hb' : b < gN B 0 := by
      have : gN (drA B) 0 = gN B 0 := gN_ne (by omega)
      omega
    rw [ea, em, ek, drA_ne (by omega), drA_ne (by omega), drA_ne (by omega)]
    exact ab b hb'
theorem MR_kick {m : Nat} {B : Nat → Int32} {h h' : Nat → Nat → Int32} {wr : Bool} {lg b : Nat} (hn : gN B 0 ≤ 5) (H : MR m B h) (e0 : ∀ k, k ≠ 1 → k < 5 → h' m k = h m k) (e1 : h' m 1 = nI (gN B 10 - 1)) (ea : h' (m + 1) = h (m + 1)) (em : h' (m + 2) = va_up (h (m + 2)) b (nI (min 9 (gN B (14 + 5 * b) + 1)))) (ek : h' (m + 3) = va_up (h (m + 3)) b (nI (min 999 (gN B (15 + 5 * b) + 1)))) : MR m (kkA wr lg b B) h' := by
  obtain ⟨a0, a1, a2, a3, a4, ab⟩ := H
  refine ⟨?_, ?_, ?_, ?_, ?_, fun c hc => ?_⟩
  · rw [e0 0 (by omega) (by omega), kkA_lo (by omega) (by omega), k3A_ne (by omega) (by omega) (by omega)]; exact a0
  · rw [e1, kkA_lo (by omega) (by omega), k3A_si]
  · rw [e0 2 (by omega) (by omega), kkA_lo (by omega) (by omega), k3A_ne (by omega) (by omega) (by omega)]; exact a2
  · rw [e0 3 (by omega) (by omega), kkA_lo (by omega) (by omega), k3A_ne (by omega) (by omega) (by omega)]; exact a3
  · rw [e0 4 (by omega) (by omega), kkA_lo (by omega) (by omega), k3A_ne (by omega) (by omega) (by omega)]; exact a4
  · have e : gN (kkA wr lg b B) 0 = gN B 0 := by unfold gN; rw [kkA_lo (by omega) (by omega), k3A_ne (by omega) (by omega) (by omega)]
    have hc' : c < gN B 0 := by omega
    obtain ⟨b1, b2, b3⟩ := ab c hc'
    rw [kkA_lo (by omega) (by omega), kkA_lo (by omega) (by omega), kkA_lo (by omega) (by omega), ea, em, ek, k3A_ne (i := 13 + 5 * c) (by omega) (by omega) (by omega)]
    by_cases hcb : c = b
    · subst hcb
      rw [va_up_self, va_up_self, k3A_md, k3A_kk]
      exact ⟨b1, rfl, rfl⟩
    · rw [va_up_ne _ _ hcb, va_up_ne _ _ hcb, k3A_ne (i := 14 + 5 * c) (by omega) (by omega) (by omega), k3A_ne (i := 15 + 5 * c) (by omega) (by omega) (by omega)]
      exact ⟨b1, b2, b3⟩
theorem MR_mood {m : Nat} {B : Nat → Int32} {h h' : Nat → Nat → Int32} {b : Nat} (hn : gN B 0 ≤ 5) (H : MR m B h) (e0 : h' m = h m) (ea : h' (m + 1) = h (m + 1)) (em : h' (m + 2) = va_up (h (m + 2)) b (nI (gN B (14 + 5 * b) - 1))) (ek : h' (m + 3) = h (m + 3)) : MR m (mdA b B) h' := by
  obtain ⟨a0, a1, a2, a3, a4, ab⟩ := H
  have n : ∀ i, i ≠ 14 + 5 * b → mdA b B i = B i := fun i hi => va_up_ne _ _ hi
  refine ⟨?_, ?_, ?_, ?_, ?_, fun c hc => ?_⟩
  · rw [e0, n 9 (by omega)]; exact a0
  · rw [e0, n 10 (by omega)]; exact a1
  · rw [e0, n 8 (by omega)]; exact a2
  · rw [e0, n 11 (by omega)]; exact a3
  · rw [e0, n 0 (by omega)]; exact a4
  · have e : gN (mdA b B) 0 = gN B 0 := gN_ne (by omega)
    obtain ⟨b1, b2, b3⟩ := ab c (by omega)
    rw [ea, em, ek, n (13 + 5 * c) (by omega), n (15 + 5 * c) (by omega)]
    refine ⟨b1, ?_, b3⟩
    by_cases hcb : c = b
    · subst hcb
      rw [va_up_self]
      exact (va_up_self _ _ _).symm
    · rw [va_up_ne _ _ hcb, n (14 + 5 * c) (by omega)]
      exact b2
theorem k3A_book {B : Nat → Int32} {b i : Nat} (hb : b < 5) (hi : 1696 ≤ i ∨ i = 12) : k3A b B i = B i := k3A_ne (by omega) (by omega) (by omega)
theorem BK_kick {m : Nat} {B : Nat → Int32} {h h' : Nat → Nat → Int32} {wr : Bool} {lg b bf bc : Nat} (hb : b < 5) (h1 : bf < 30) (h2 : bc ≤ 30) (h5 : wr = true → gN B 12 = bc ∧ ∀ i, i < bc → h (m + 4) ((bf + i) % 30) = B (1696 + i)) (e9 : h' m 9 = nI (if bc < 30 then bf else (bf + 1) % 30)) (e10 : h' m 10 = nI (if bc < 30 then bc + 1 else bc)) (e4 : h' (m + 4) = va_up (h (m + 4)) ((bf + bc) % 30) (nI ((gN B 8 * 8 + b) * 16 + lg))) : BK wr m (kkA wr lg b B) h' := by
  by_cases c : bc < 30
  · rw [if_pos c] at e9 e10
    refine ⟨bf, bc + 1, h1, by omega, e9, e10, fun hw => ?_⟩
    subst hw
    obtain ⟨g1, g2⟩ := h5 rfl
    have g3 : gN (k3A b B) 12 = bc := by unfold gN; rw [k3A_book hb (Or.inr rfl)]; exact g1
    have ek : kkA true lg b B = va_up (va_up (k3A b B) (1696 + bc) (nI ((gN B 8 * 8 + b) * 16 + lg))) 12 (nI (bc + 1)) := by
      show wrA _ _ = _
      unfold wrA
      rw [if_neg (by omega), g3]
    rw [ek]
    refine ⟨gN_nI (va_up_self _ _ _) (by omega), fun i hi => ?_⟩
    rw [e4, va_up_ne _ _ (show 1696 + i ≠ 12 by omega)]
    by_cases ci : i = bc
    · subst ci
      rw [va_up_self, va_up_self]
    · rw [va_up_ne _ _ (show (bf + i) % 30 ≠ (bf + bc) % 30 by omega), va_up_ne _ _ (show 1696 + i ≠ 1696 + bc by omega), k3A_book hb (Or.inl (by omega))]
      exact g2 i (by omega)
  · have cb : bc = 30 := by omega
    subst cb
    rw [if_neg c] at e9 e10
    refine ⟨(bf + 1) % 30, 30, by omega, by omega, e9, e10, fun hw => ?_⟩
    subst hw
    obtain ⟨g1, g2⟩ := h5 rfl
    have g3 : gN (k3A b B) 12 = 30 := by unfold gN; rw [k3A_book hb (Or.inr rfl)]; exact g1
    have ek : kkA true lg b B = rw2 1696 30 (fun j => if j = 29 then nI ((gN B 8 * 8 + b) * 16 + lg) else k3A b B (1697 + j)) (k3A b B) := by
      show wrA _ _ = _
      unfold wrA
      rw [if_pos g3]
    rw [ek]
    refine ⟨?_, fun i hi => ?_⟩
    · unfold gN
      rw [rw2_out (by omega)]
      exact g3
    · rw [e4, rw2_in hi]
      by_cases ci : i = 29
      · subst ci
        rw [if_pos rfl, show ((bf + 1) % 30 + 29) % 30 = (bf + 30) % 30 by omega, va_up_self]
      · rw [if_neg ci, va_up_ne _ _ (show ((bf + 1) % 30 + i) % 30 ≠ (bf + 30) % 30 by omega), k3A_book hb (Or.inl (by omega)), show 1697 + i = 1696 + (i + 1) by omega, ← g2 (i + 1) (by omega)]
        congr 1
        omega
theorem BK_stay {m : Nat} {B B' : Nat → Int32} {h h' : Nat → Nat → Int32} {wr : Bool} (H : BK wr m B h) (e9 : h' m 9 = h m 9) (e10 : h' m 10 = h m 10) (e4 : h' (m + 4) = h (m + 4)) (e12 : B' 12 = B 12) (eb : ∀ i, 1696 ≤ i → B' i = B i) : BK wr m B' h' := by
  obtain ⟨bf, bc, h1, h2, h3, h4, h5⟩ := H
  refine ⟨bf, bc, h1, h2, by rw [e9]; exact h3, by rw [e10]; exact h4, fun hw => ?_⟩
  obtain ⟨g1, g2⟩ := h5 hw
  refine ⟨by unfold gN; rw [e12]; exact g1, fun i hi => ?_⟩
  rw [e4, eb _ (by omega)]
  exact g2 i hi
section HO
variable {L t : Nat} {lt rt rp : Option Nat} {sw : Bool} {h : Nat → Nat → Int32} {gl : Nat → Nat → Int64}
theorem e_draw_14 (x : Nat) (hx : x < 30559) (e3 : h 14 3 = nI x) : avE 0 109 [.ref 14] (sX L t lt rt rp sw h gl) (some (.int (nI x)), sX L t lt rt rp sw (mvPut h 14 3 (nI ((x * 439 + 317) % 30559))) gl) := by
  show avA _ 109 0 [.ref 14, mvU] [] _ _
  refine a_aload_0 rfl rfl ?_
  refine a_geti rfl rfl rfl (fun _ _ _ => rfl) ?_
  refine a_as (y := nI (x)) e3 ?_
  refine a_istore_1 rfl rfl rfl ?_
  refine a_aload_0 rfl rfl ?_
  refine a_iload_1 rfl rfl ?_
  refine a_sipush (v := (nI 439)) rfl rfl rfl ?_
  refine a_imulN rfl rfl ?_
  refine a_sipush (v := (nI 317)) rfl rfl rfl ?_
  refine a_iaddN rfl rfl ?_
  refine a_sipush (v := (nI 30559)) rfl rfl rfl ?_
  refine a_iremN rfl rfl (by omega) (by omega) (by omega) ?_
  refine a_puti rfl rfl rfl rfl ?_
  refine a_iload_1 rfl rfl ?_
  exact a_iret rfl rfl
theorem e_kick_14 (b lg md kk si ho bf bc : Nat) (hb : b < 5) (hl : lg ≤ 15) (hmd : md ≤ 9) (hkk : kk ≤ 999) (hsi : si ≤ 9999) (hho : ho ≤ 9999) (hbf : bf < 30) (hbc : bc ≤ 30) (e1 : h 16 b = nI md) (e2 : h 17 b = nI kk) (e3 : h 14 1 = nI si) (e4 : h 14 2 = nI ho) (e5 : h 14 9 = nI bf) (e6 : h 14 10 = nI bc) : ∃ h', avE 1 111 [.ref 14, .int (nI b), .int (nI lg)] (sX L t lt rt rp sw h gl) (none, sX L t lt rt rp sw h' gl) ∧ CF [14, 16, 17, 18] h h' ∧ (∀ k, k ≠ 1 → k < 5 → h' 14 k = h 14 k) ∧ h' 14 1 = nI (si - 1) ∧ h' 16 = va_up (h 16) b (nI (min 9 (md + 1))) ∧ h' 17 = va_up (h 17) b (nI (min 999 (kk + 1))) ∧ h' 18 = va_up (h 18) ((bf + bc) % 30) (nI ((ho * 8 + b) * 16 + lg)) ∧ h' 14 9 = nI (if bc < 30 then bf else (bf + 1) % 30) ∧ h' 14 10 = nI (if bc < 30 then bc + 1 else bc) := by
  by_cases c : bc < 30
  · refine ⟨mvPut (mvPut (mvPut (mvPut (mvPut h 16 b (nI (min 9 (md + 1)))) 17 b (nI (min 999 (kk + 1)))) 14 1 (nI (si - 1))) 18 ((bf + bc) % 30) (nI ((ho * 8 + b) * 16 + lg))) 14 10 (nI (bc + 1)), ?_, CF_put (CF_put (CF_put (CF_put (CF_put CF_refl rfl) rfl) rfl) rfl) rfl, ?_, rfl, rfl, rfl, rfl, ?_, ?_⟩
    · show avA _ 111 0 [.ref 14, .int (nI (b)), .int (nI (lg))] [] _ _
      refine a_aload_0 rfl rfl ?_
      refine a_getr rfl rfl rfl (fun _ _ _ => rfl) rfl ?_
      refine a_iload_1 rfl rfl ?_
      refine a_bipush (v := (nI 9)) rfl rfl rfl ?_
      refine a_aload_0 rfl rfl ?_
      refine a_getr rfl rfl rfl (fun _ _ _ => rfl) rfl ?_
      refine a_iload_1 rfl rfl ?_
      refine a_iald rfl rfl (Or.inl rfl) rfl (by omega) (by decide) ?_
      refine a_as (y := nI (md)) e1 ?_
      refine a_iconst (v := (nI 1)) rfl rfl rfl ?_
      refine a_iaddN rfl rfl ?_
      refine a_minN rfl rfl (Nat.le_of_ble_eq_true rfl) (by omega) (by omega) ?_
      refine a_iast rfl rfl rfl rfl (by omega) (by decide) ?_
      refine a_aload_0 rfl rfl ?_
      refine a_getr rfl rfl rfl (fun _ _ _ => rfl) rfl ?_
      refine a_iload_1 rfl rfl ?_
      refine a_sipush (v := (nI 999)) rfl rfl rfl ?_
      refine a_aload_0 rfl rfl ?_
      refine a_getr rfl rfl rfl (fun _ _ _ => rfl) rfl ?_
      refine a_iload_1 rfl rfl ?_
      refine a_iald rfl rfl (Or.inl rfl) rfl (by omega) (by decide) ?_
      refine a_as (y := nI (kk)) e2 ?_
      refine a_iconst (v := (nI 1)) rfl rfl rfl ?_
      refine a_iaddN rfl rfl ?_
      refine a_minN rfl rfl (Nat.le_of_ble_eq_true rfl) (by omega) (by omega) ?_
      refine a_iast rfl rfl rfl rfl (by omega) (by decide) ?_
      refine a_aload_0 rfl rfl ?_
      refine a_iconst (v := iI (0)) rfl rfl rfl ?_
      refine a_aload_0 rfl rfl ?_
      refine a_geti rfl rfl rfl (fun _ _ _ => rfl) ?_
      refine a_as (y := iI ((si : Int))) (e3.trans (iI_nat si).symm) ?_
      refine a_iconst (v := iI (1)) rfl rfl rfl ?_
      refine a_isubZ rfl rfl ?_
      refine a_maxZ rfl rfl (Nat.le_of_ble_eq_true rfl) (by omega) (by omega) ?_
      refine a_as (y := nI (si - 1)) (by rw [← iI_nat]; congr 1; omega) ?_
      refine a_puti rfl rfl rfl rfl ?_
      refine a_aload_0 rfl rfl ?_
      refine a_getr rfl rfl rfl (fun _ _ _ => rfl) rfl ?_
      refine a_aload_0 rfl rfl ?_
      refine a_geti rfl rfl rfl (fun _ _ _ => rfl) ?_
      refine a_as (y := nI (bf)) e5 ?_
      refine a_aload_0 rfl rfl ?_
      refine a_geti rfl rfl rfl (fun _ _ _ => rfl) ?_
      refine a_as (y := nI (bc)) e6 ?_
      refine a_iaddN rfl rfl ?_
      refine a_bipush (v := (nI 30)) rfl rfl rfl ?_
      refine a_iremN rfl rfl (by omega) (by omega) (by omega) ?_
      refine a_aload_0 rfl rfl ?_
      refine a_geti rfl rfl rfl (fun _ _ _ => rfl) ?_
      refine a_as (y := nI (ho)) e4 ?_
      refine a_iload_1 rfl rfl ?_
      refine a_iload_2 rfl rfl ?_
      refine a_statI rfl rfl (e_packKick ho b lg (by omega) (by omega) (by omega)) (Nat.le_of_ble_eq_true rfl) ⟨rfl, rfl, rfl⟩ rfl rfl rfl (Nat.le_of_ble_eq_true rfl) rfl ?_
      refine a_iast rfl rfl rfl rfl (by omega) (by decide) ?_
      refine a_aload_0 rfl rfl ?_
      refine a_geti rfl rfl rfl (fun _ _ _ => rfl) ?_
      refine a_as (y := nI (bc)) e6 ?_
      refine a_bipush (v := (nI 30)) rfl rfl rfl ?_
      refine a_cmpN_ge rfl rfl rfl (by omega) (by omega) (fun c_85 => False.elim (by omega)) (fun _ => ?_)
      refine a_aload_0 rfl rfl ?_
      refine a_dup rfl rfl rfl ?_
      refine a_geti rfl rfl rfl (fun _ _ _ => rfl) ?_
      refine a_as (y := nI (bc)) e6 ?_
      refine a_iconst (v := (nI 1)) rfl rfl rfl ?_
      refine a_iaddN rfl rfl ?_
      refine a_puti rfl rfl rfl rfl ?_
      refine a_goto rfl rfl ?_
      exact a_vret rfl rfl
    · intro k h1 h5
      match k, h1, h5 with
      | 0, _, _ => rfl
      | 2, _, _ => rfl
      | 3, _, _ => rfl
      | 4, _, _ => rfl
    · rw [if_pos c]; exact e5
    · rw [if_pos c]; rfl
  · have c30 : bc = 30 := by omega
    subst c30
    refine ⟨mvPut (mvPut (mvPut (mvPut (mvPut h 16 b (nI (min 9 (md + 1)))) 17 b (nI (min 999 (kk + 1)))) 14 1 (nI (si - 1))) 18 ((bf + 30) % 30) (nI ((ho * 8 + b) * 16 + lg))) 14 9 (nI ((bf + 1) % 30)), ?_, CF_put (CF_put (CF_put (CF_put (CF_put CF_refl rfl) rfl) rfl) rfl) rfl, ?_, rfl, rfl, rfl, rfl, ?_, ?_⟩
    · show avA _ 111 0 [.ref 14, .int (nI (b)), .int (nI (lg))] [] _ _
      refine a_aload_0 rfl rfl ?_
      refine a_getr rfl rfl rfl (fun _ _ _ => rfl) rfl ?_
      refine a_iload_1 rfl rfl ?_
      refine a_bipush (v := (nI 9)) rfl rfl rfl ?_
      refine a_aload_0 rfl rfl ?_
      refine a_getr rfl rfl rfl (fun _ _ _ => rfl) rfl ?_
      refine a_iload_1 rfl rfl ?_
      refine a_iald rfl rfl (Or.inl rfl) rfl (by omega) (by decide) ?_
      refine a_as (y := nI (md)) e1 ?_
      refine a_iconst (v := (nI 1)) rfl rfl rfl ?_
      refine a_iaddN rfl rfl ?_
      refine a_minN rfl rfl (Nat.le_of_ble_eq_true rfl) (by omega) (by omega) ?_
      refine a_iast rfl rfl rfl rfl (by omega) (by decide) ?_
      refine a_aload_0 rfl rfl ?_
      refine a_getr rfl rfl rfl (fun _ _ _ => rfl) rfl ?_
      refine a_iload_1 rfl rfl ?_
      refine a_sipush (v := (nI 999)) rfl rfl rfl ?_
      refine a_aload_0 rfl rfl ?_
      refine a_getr rfl rfl rfl (fun _ _ _ => rfl) rfl ?_
      refine a_iload_1 rfl rfl ?_
      refine a_iald rfl rfl (Or.inl rfl) rfl (by omega) (by decide) ?_
      refine a_as (y := nI (kk)) e2 ?_
      refine a_iconst (v := (nI 1)) rfl rfl rfl ?_
      refine a_iaddN rfl rfl ?_
      refine a_minN rfl rfl (Nat.le_of_ble_eq_true rfl) (by omega) (by omega) ?_
      refine a_iast rfl rfl rfl rfl (by omega) (by decide) ?_
      refine a_aload_0 rfl rfl ?_
      refine a_iconst (v := iI (0)) rfl rfl rfl ?_
      refine a_aload_0 rfl rfl ?_
      refine a_geti rfl rfl rfl (fun _ _ _ => rfl) ?_
      refine a_as (y := iI ((si : Int))) (e3.trans (iI_nat si).symm) ?_
      refine a_iconst (v := iI (1)) rfl rfl rfl ?_
      refine a_isubZ rfl rfl ?_
      refine a_maxZ rfl rfl (Nat.le_of_ble_eq_true rfl) (by omega) (by omega) ?_
      refine a_as (y := nI (si - 1)) (by rw [← iI_nat]; congr 1; omega) ?_
      refine a_puti rfl rfl rfl rfl ?_
      refine a_aload_0 rfl rfl ?_
      refine a_getr rfl rfl rfl (fun _ _ _ => rfl) rfl ?_
      refine a_aload_0 rfl rfl ?_
      refine a_geti rfl rfl rfl (fun _ _ _ => rfl) ?_
      refine a_as (y := nI (bf)) e5 ?_
      refine a_aload_0 rfl rfl ?_
      refine a_geti rfl rfl rfl (fun _ _ _ => rfl) ?_
      refine a_as (y := nI (30)) e6 ?_
      refine a_iaddN rfl rfl ?_
      refine a_bipush (v := (nI 30)) rfl rfl rfl ?_
      refine a_iremN rfl rfl (by omega) (by omega) (by omega) ?_
      refine a_aload_0 rfl rfl ?_
      refine a_geti rfl rfl rfl (fun _ _ _ => rfl) ?_
      refine a_as (y := nI (ho)) e4 ?_
      refine a_iload_1 rfl rfl ?_
      refine a_iload_2 rfl rfl ?_
      refine a_statI rfl rfl (e_packKick ho b lg (by omega) (by omega) (by omega)) (Nat.le_of_ble_eq_true rfl) ⟨rfl, rfl, rfl⟩ rfl rfl rfl (Nat.le_of_ble_eq_true rfl) rfl ?_
      refine a_iast rfl rfl rfl rfl (by omega) (by decide) ?_
      refine a_aload_0 rfl rfl ?_
      refine a_geti rfl rfl rfl (fun _ _ _ => rfl) ?_
      refine a_as (y := nI (30)) e6 ?_
      refine a_bipush (v := (nI 30)) rfl rfl rfl ?_
      refine a_cmpN_ge rfl rfl rfl (by omega) (by omega) (fun _ => ?_) (fun c_85 => False.elim (by omega))
      refine a_aload_0 rfl rfl ?_
      refine a_aload_0 rfl rfl ?_
      refine a_geti rfl rfl rfl (fun _ _ _ => rfl) ?_
      refine a_as (y := nI (bf)) e5 ?_
      refine a_iconst (v := (nI 1)) rfl rfl rfl ?_
      refine a_iaddN rfl rfl ?_
      refine a_bipush (v := (nI 30)) rfl rfl rfl ?_
      refine a_iremN rfl rfl (by omega) (by omega) (by omega) ?_
      refine a_puti rfl rfl rfl rfl ?_
      exact a_vret rfl rfl
    · intro k h1 h5
      match k, h1, h5 with
      | 0, _, _ => rfl
      | 2, _, _ => rfl
      | 3, _, _ => rfl
      | 4, _, _ => rfl
    · rw [if_neg c]; rfl
    · rw [if_neg c]; exact e6
/-- the beasts of an hour, from the b-th on -/
theorem l_pass_14 (wr : Bool) (fl : Nat → Option (E1 → Int)) (A : Nat → Int32) (R ho sz : Nat) (mo : Int32) (y1 : Value) (n : Nat) (hn : n ≤ 5) (j : Nat) : ∀ (b kk : Nat) (B : Nat → Int32) (h : Nat → Nat → Int32), b + j = n → gN B 0 = n → kk ≤ b → rOK B → MR 14 B h → BK wr 14 B h → LW fl A h t lt mo R ho sz → ∃ h', avA 5 98 65 [.ref 8, y1, .ref 14, .int (nI kk), .int (nI b)] [] (sX L t lt rt rp sw h gl) (some (.int (nI (lvR wr (fun B b => kcV fl A ho sz mo (B (14 + 5 * b)) (B (13 + 5 * b)) b) (fun B b => ltC (fl 0) A ho sz mo (B (13 + 5 * b))) j b B kk).2)), sX L t lt rt rp sw (mvPut h' 14 2 (h' 14 2 + nI 1)) gl) ∧ CF [14, 16, 17, 18, 34, 35, 37, 38, 39] h h' ∧ MR 14 (lvR wr (fun B b => kcV fl A ho sz mo (B (14 + 5 * b)) (B (13 + 5 * b)) b) (fun B b => ltC (fl 0) A ho sz mo (B (13 + 5 * b))) j b B kk).1 h' ∧ BK wr 14 (lvR wr (fun B b => kcV fl A ho sz mo (B (14 + 5 * b)) (B (13 + 5 * b)) b) (fun B b => ltC (fl 0) A ho sz mo (B (13 + 5 * b))) j b B kk).1 h' ∧ LWf (fl 0) A h' R ho sz := by
  induction j with
  | zero =>
    intro b kk B h hbj h0 hkk hB hM hK H
    refine ⟨h, ?_, CF_refl, hM, hK, H.2.1⟩
    have e4 : h 14 4 = nI n := by rw [hM.2.2.2.2.1, ← h0]; exact gN_eq hB (by omega) (by decide)
    refine a_iload_4 rfl rfl ?_
    refine a_aload_2 rfl rfl ?_
    refine a_geti rfl rfl rfl (fun _ _ _ => rfl) ?_
    refine a_as (y := nI (n)) e4 ?_
    refine a_cmpN_ge rfl rfl rfl (by omega) (by omega) (fun _ => ?_) (fun c_71 => False.elim (by omega))
    refine a_aload_2 rfl rfl ?_
    refine a_dup rfl rfl rfl ?_
    refine a_geti rfl rfl rfl (fun _ _ _ => rfl) ?_
    refine a_iconst (v := (nI 1)) rfl rfl rfl ?_
    refine a_iadd rfl rfl ?_
    refine a_puti rfl rfl rfl rfl ?_
    refine a_iload_3 rfl rfl ?_
    exact a_iret rfl rfl
  | succ j ih =>
    intro b kk B h hbj h0 hkk hB hM hK H
    have hb : b < 5 := by omega
    obtain ⟨a0, a1, a2, a3, a4, ab⟩ := hM
    obtain ⟨b1, b2, b3⟩ := ab b (by omega)
    have e4 : h 14 4 = nI n := by rw [a4, ← h0]; exact gN_eq hB (by omega) (by decide)
    have x11 := gN_le (m := 30558) hB (i := 11) (by omega) (by decide)
    have e3 : h 14 3 = nI (gN B 11) := a3.trans (gN_eq hB (by omega) (by decide))
    have Cd := e_draw_14 (L := L) (t := t) (lt := lt) (rt := rt) (rp := rp) (sw := sw) (gl := gl) (gN B 11) (by omega) e3
    let h1 : Nat → Nat → Int32 := mvPut h 14 3 (nI ((gN B 11 * 439 + 317) % 30559))
    have c1 : CF [14] h h1 := CF_put CF_refl rfl
    have H1 : LW fl A h1 t lt mo R ho sz := LW_cf rfl (fun p hp => by simp; omega) H c1 H.2.1
    have M1 : MR 14 (drA B) h1 := MR_draw ⟨a0, a1, a2, a3, a4, ab⟩ (fun k h3 h5 => by
      match k, h3, h5 with
      | 0, _, _ => rfl
      | 1, _, _ => rfl
      | 2, _, _ => rfl
      | 4, _, _ => rfl) rfl rfl rfl rfl
    have K1 : BK wr 14 (drA B) h1 := BK_stay hK rfl rfl rfl rfl (fun i hi => drA_ne (by omega))
    have bm := hB (14 + 5 * b) (by omega)
    have ba := hB (13 + 5 * b) (by omega)
    unfold inB at bm ba
    rw [bd_mood hb] at bm
    rw [bd_at hb] at ba
    dsimp only at bm ba
    have hD := drA_OK hB
    have hD0 : gN (drA B) 0 = n := (gN_ne (by omega)).trans h0
    obtain ⟨h2, Ck, c2, f2⟩ := e_kicksOf_14 (L := L) (t := t) (lt := lt) (rt := rt) (rp := rp) (sw := sw) (gl := gl) (h := h1) fl A mo R ho sz b hb H1 (by show 0 ≤ (h 16 b).toInt ∧ (h 16 b).toInt ≤ 9999; rw [b2]; omega) (by show 0 ≤ (h 15 b).toInt ∧ (h 15 b).toInt ≤ 9999; rw [b1]; omega)
    have ekc : kcV fl A ho sz mo (h1 16 b) (h1 15 b) b = kcV fl A ho sz mo (B (14 + 5 * b)) (B (13 + 5 * b)) b := by
      show kcV fl A ho sz mo (h 16 b) (h 15 b) b = _
      rw [b1, b2]
    rw [ekc] at Ck
    have H2 : LW fl A h2 t lt mo R ho sz := LW_cf rfl (fun p hp => by simp; omega) H1 c2 f2
    have hkc := kcV_le fl A ho sz mo (B (14 + 5 * b)) (B (13 + 5 * b)) b
    have q0 : h2 14 = h1 14 := c2 14 rfl
    have q1 : h2 15 = h1 15 := c2 15 rfl
    have q2 : h2 16 = h1 16 := c2 16 rfl
    have q3 : h2 17 = h1 17 := c2 17 rfl
    have q4 : h2 18 = h1 18 := c2 18 rfl
    by_cases hk : gN B 11 % 10 < kcV fl A ho sz mo (B (14 + 5 * b)) (B (13 + 5 * b)) b
    · obtain ⟨h3, Cl, c3, f3⟩ := e_lightAt (L := L) (t := t) (lt := lt) (rt := rt) (rp := rp) (sw := sw) (gl := gl) fl A mo (B (13 + 5 * b)) R ho sz H2
      have hlg := ltC_le (fl 0) A ho sz mo (B (13 + 5 * b))
      have H3 : LW fl A h3 t lt mo R ho sz := LW_cf rfl (fun p hp => by simp; omega) H2 c3 f3
      have w0 : h3 14 = h1 14 := (c3 14 rfl).trans q0
      have w1 : h3 15 = h1 15 := (c3 15 rfl).trans q1
      have w2 : h3 16 = h1 16 := (c3 16 rfl).trans q2
      have w3 : h3 17 = h1 17 := (c3 17 rfl).trans q3
      have w4 : h3 18 = h1 18 := (c3 18 rfl).trans q4
      have M3 : MR 14 (drA B) h3 := by
        unfold MR at M1 ⊢
        rw [w0, w1, w2, w3]
        exact M1
      obtain ⟨bf, bc, k1, k2, k3, k4, k5⟩ := K1
      obtain ⟨m0, m1, m2, m3, m4, mb⟩ := M3
      obtain ⟨n1, n2, n3⟩ := mb b (by omega)
      obtain ⟨h4, Cq, c4, p0, p1, p2, p3, p4, p9, p10⟩ := e_kick_14 (L := L) (t := t) (lt := lt) (rt := rt) (rp := rp) (sw := sw) (gl := gl) (h := h3) b (ltC (fl 0) A ho sz mo (B (13 + 5 * b))) (gN (drA B) (14 + 5 * b)) (gN (drA B) (15 + 5 * b)) (gN (drA B) 10) (gN (drA B) 8) bf bc hb hlg (gN_le (m := 9) hD (by omega) (by rw [bd_mood hb]; decide)) (gN_le (m := 999) hD (by omega) (by rw [bd_kick hb]; decide)) (gN_le (m := 9999) hD (by omega) (by decide)) (gN_le (m := 9999) hD (by omega) (by decide)) k1 k2 (n2.trans (gN_eq hD (by omega) (by rw [bd_mood hb]; decide))) (n3.trans (gN_eq hD (by omega) (by rw [bd_kick hb]; decide))) (m1.trans (gN_eq hD (by omega) (by decide))) (m2.trans (gN_eq hD (by omega) (by decide))) (by rw [w0]; exact k3) (by rw [w0]; exact k4)
      have M4 : MR 14 (kkA wr (ltC (fl 0) A ho sz mo (B (13 + 5 * b))) b (drA B)) h4 := MR_kick (by omega) ⟨m0, m1, m2, m3, m4, mb⟩ p0 p1 (c4 15 rfl) p2 p3
      have K4 : BK wr 14 (kkA wr (ltC (fl 0) A ho sz mo (B (13 + 5 * b))) b (drA B)) h4 := BK_kick (h := h3) hb k1 k2 (fun hw => ⟨(k5 hw).1, fun i hi => by show h3 18 _ = _; rw [w4]; exact (k5 hw).2 i hi⟩) p9 p10 p4
      have H4 : LW fl A h4 t lt mo R ho sz := LW_cf rfl (fun p hp => by simp; omega) H3 c4 (by have e39 : h4 39 = h3 39 := c4 39 rfl; unfold LWf; rw [e39]; exact f3)
      have O4 := kkA_OK (wr := wr) hb hlg hD
      have z0 : gN (kkA wr (ltC (fl 0) A ho sz mo (B (13 + 5 * b))) b (drA B)) 0 = n := by
        unfold gN
        rw [kkA_lo (by omega) (by omega), k3A_ne (by omega) (by omega) (by omega)]
        exact hD0
      obtain ⟨h', A5, c5, M5, K5, f5⟩ := ih (b + 1) (kk + 1) _ h4 (by omega) z0 (by omega) O4 M4 K4 H4
      have el : ∀ kf lf : (Nat → Int32) → Nat → Nat, kf B b = kcV fl A ho sz mo (B (14 + 5 * b)) (B (13 + 5 * b)) b → lf B b = ltC (fl 0) A ho sz mo (B (13 + 5 * b)) → lvR wr kf lf (j + 1) b B kk = lvR wr kf lf j (b + 1) (kkA wr (ltC (fl 0) A ho sz mo (B (13 + 5 * b))) b (drA B)) (kk + 1) := by
        intro kf lf e1 e2
        rw [lvR, e1, e2, if_pos hk]
        unfold lvA
        rw [if_pos hk]
      rw [el _ _ rfl rfl]
      refine ⟨h', ?_, CF_trans (CF_mono (by decide) c1) (CF_trans (CF_mono (by decide) c2) (CF_trans (CF_mono (by decide) c3) (CF_trans (CF_mono (by decide) c4) c5))), M5, K5, f5⟩
      refine a_iload_4 rfl rfl ?_
      refine a_aload_2 rfl rfl ?_
      refine a_geti rfl rfl rfl (fun _ _ _ => rfl) ?_
      refine a_as (y := nI (n)) e4 ?_
      refine a_cmpN_ge rfl rfl rfl (by omega) (by omega) (fun c_71 => False.elim (by omega)) (fun _ => ?_)
      refine a_aload_2 rfl rfl ?_
      refine a_virtI rfl rfl (Cd) (Nat.le_of_ble_eq_true rfl) ⟨rfl, rfl, rfl, rfl⟩ rfl rfl rfl (Nat.le_of_ble_eq_true rfl) rfl rfl ?_
      refine a_bipush (v := (nI 10)) rfl rfl rfl ?_
      refine a_iremN rfl rfl (by omega) (by omega) (by omega) ?_
      refine a_aload_0 rfl rfl ?_
      refine a_aload_2 rfl rfl ?_
      refine a_iload_4 rfl rfl ?_
      refine a_virtI rfl rfl (Ck) (Nat.le_of_ble_eq_true rfl) ⟨rfl, rfl, rfl, rfl⟩ rfl rfl rfl (Nat.le_of_ble_eq_true rfl) rfl rfl ?_
      refine a_cmpN_ge rfl rfl rfl (by omega) (by omega) (fun c_88 => False.elim (by omega)) (fun _ => ?_)
      refine a_aload_2 rfl rfl ?_
      refine a_iload_4 rfl rfl ?_
      refine a_aload_0 rfl rfl ?_
      refine a_aload_2 rfl rfl ?_
      refine a_getr rfl rfl rfl (fun _ _ _ => rfl) rfl ?_
      refine a_iload_4 rfl rfl ?_
      refine a_iald rfl rfl (Or.inl rfl) rfl (by omega) (by decide) ?_
      refine a_as (y := B (13 + 5 * b)) (by rw [q1]; exact b1) ?_
      refine a_virtI rfl rfl (Cl) (Nat.le_of_ble_eq_true rfl) ⟨rfl, rfl, rfl, rfl⟩ rfl rfl rfl (Nat.le_of_ble_eq_true rfl) rfl rfl ?_
      refine a_virt0 rfl rfl (Cq) (Nat.le_of_ble_eq_true rfl) ⟨rfl, rfl, rfl, rfl⟩ rfl rfl rfl (Nat.le_of_ble_eq_true rfl) rfl rfl ?_
      refine a_iinc_3 rfl rfl (nI_inc _ _) rfl ?_
      refine a_goto rfl rfl ?_
      refine a_iinc_4 rfl rfl (nI_inc _ _) rfl ?_
      refine a_goto rfl rfl ?_
      exact A5
    · have hMd : h2 16 b = nI (gN (drA B) (14 + 5 * b)) := by
        rw [q2]
        exact ((M1.2.2.2.2.2 b (by omega)).2.1).trans (gN_eq hD (by omega) (by rw [bd_mood hb]; decide))
      have hmd9 := gN_le (m := 9) hD (i := 14 + 5 * b) (by omega) (by rw [bd_mood hb]; decide)
      let h4 : Nat → Nat → Int32 := mvPut h2 16 b (nI (gN (drA B) (14 + 5 * b) - 1))
      have c4 : CF [16] h2 h4 := CF_put CF_refl rfl
      have M2 : MR 14 (drA B) h2 := by
        unfold MR at M1 ⊢
        rw [q0, q1, q2, q3]
        exact M1
      have M4 : MR 14 (mdA b (drA B)) h4 := MR_mood (by omega) M2 rfl rfl rfl rfl
      have K4 : BK wr 14 (mdA b (drA B)) h4 := BK_stay K1 (by show h2 14 9 = _; rw [q0]) (by show h2 14 10 = _; rw [q0]) (by show h2 18 = _; rw [q4]) (va_up_ne _ _ (by omega)) (fun i hi => va_up_ne _ _ (by omega))
      have H4 : LW fl A h4 t lt mo R ho sz := LW_cf rfl (fun p hp => by simp; omega) H2 c4 f2
      have O4 := mdA_OK hb hD
      have z0 : gN (mdA b (drA B)) 0 = n := (gN_ne (by omega)).trans hD0
      obtain ⟨h', A5, c5, M5, K5, f5⟩ := ih (b + 1) kk _ h4 (by omega) z0 (by omega) O4 M4 K4 H4
      have el : ∀ kf lf : (Nat → Int32) → Nat → Nat, kf B b = kcV fl A ho sz mo (B (14 + 5 * b)) (B (13 + 5 * b)) b → lvR wr kf lf (j + 1) b B kk = lvR wr kf lf j (b + 1) (mdA b (drA B)) kk := by
        intro kf lf e1
        rw [lvR, e1, if_neg hk]
        unfold lvA
        rw [if_neg hk]
        rfl
      rw [el _ _ rfl]
      refine ⟨h', ?_, CF_trans (CF_mono (by decide) c1) (CF_trans (CF_mono (by decide) c2) (CF_trans (CF_mono (by decide) c4) c5)), M5, K5, f5⟩
      refine a_iload_4 rfl rfl ?_
      refine a_aload_2 rfl rfl ?_
      refine a_geti rfl rfl rfl (fun _ _ _ => rfl) ?_
      refine a_as (y := nI (n)) e4 ?_
      refine a_cmpN_ge rfl rfl rfl (by omega) (by omega) (fun c_71 => False.elim (by omega)) (fun _ => ?_)
      refine a_aload_2 rfl rfl ?_
      refine a_virtI rfl rfl (Cd) (Nat.le_of_ble_eq_true rfl) ⟨rfl, rfl, rfl, rfl⟩ rfl rfl rfl (Nat.le_of_ble_eq_true rfl) rfl rfl ?_
      refine a_bipush (v := (nI 10)) rfl rfl rfl ?_
      refine a_iremN rfl rfl (by omega) (by omega) (by omega) ?_
      refine a_aload_0 rfl rfl ?_
      refine a_aload_2 rfl rfl ?_
      refine a_iload_4 rfl rfl ?_
      refine a_virtI rfl rfl (Ck) (Nat.le_of_ble_eq_true rfl) ⟨rfl, rfl, rfl, rfl⟩ rfl rfl rfl (Nat.le_of_ble_eq_true rfl) rfl rfl ?_
      refine a_cmpN_ge rfl rfl rfl (by omega) (by omega) (fun _ => ?_) (fun c_88 => False.elim (by omega))
      refine a_aload_2 rfl rfl ?_
      refine a_getr rfl rfl rfl (fun _ _ _ => rfl) rfl ?_
      refine a_iload_4 rfl rfl ?_
      refine a_iconst (v := iI (0)) rfl rfl rfl ?_
      refine a_aload_2 rfl rfl ?_
      refine a_getr rfl rfl rfl (fun _ _ _ => rfl) rfl ?_
      refine a_iload_4 rfl rfl ?_
      refine a_iald rfl rfl (Or.inl rfl) rfl (by omega) (by decide) ?_
      refine a_as (y := iI ((gN (drA B) (14 + 5 * b) : Int))) (hMd.trans (iI_nat _).symm) ?_
      refine a_iconst (v := iI (1)) rfl rfl rfl ?_
      refine a_isubZ rfl rfl ?_
      refine a_maxZ rfl rfl (Nat.le_of_ble_eq_true rfl) (by omega) (by omega) ?_
      refine a_as (y := nI (gN (drA B) (14 + 5 * b) - 1)) (by rw [← iI_nat]; congr 1; omega) ?_
      refine a_iast rfl rfl rfl rfl (by omega) (by decide) ?_
      refine a_iinc_4 rfl rfl (nI_inc _ _) rfl ?_
      refine a_goto rfl rfl ?_
      exact A5
theorem e_draw_62 (x : Nat) (hx : x < 30559) (e3 : h 62 3 = nI x) : avE 0 109 [.ref 62] (sX L t lt rt rp sw h gl) (some (.int (nI x)), sX L t lt rt rp sw (mvPut h 62 3 (nI ((x * 439 + 317) % 30559))) gl) := by
  show avA _ 109 0 [.ref 62, mvU] [] _ _
  refine a_aload_0 rfl rfl ?_
  refine a_geti rfl rfl rfl (fun _ _ _ => rfl) ?_
  refine a_as (y := nI (x)) e3 ?_
  refine a_istore_1 rfl rfl rfl ?_
  refine a_aload_0 rfl rfl ?_
  refine a_iload_1 rfl rfl ?_
  refine a_sipush (v := (nI 439)) rfl rfl rfl ?_
  refine a_imulN rfl rfl ?_
  refine a_sipush (v := (nI 317)) rfl rfl rfl ?_
  refine a_iaddN rfl rfl ?_
  refine a_sipush (v := (nI 30559)) rfl rfl rfl ?_
  refine a_iremN rfl rfl (by omega) (by omega) (by omega) ?_
  refine a_puti rfl rfl rfl rfl ?_
  refine a_iload_1 rfl rfl ?_
  exact a_iret rfl rfl
theorem e_kick_62 (b lg md kk si ho bf bc : Nat) (hb : b < 5) (hl : lg ≤ 15) (hmd : md ≤ 9) (hkk : kk ≤ 999) (hsi : si ≤ 9999) (hho : ho ≤ 9999) (hbf : bf < 30) (hbc : bc ≤ 30) (e1 : h 64 b = nI md) (e2 : h 65 b = nI kk) (e3 : h 62 1 = nI si) (e4 : h 62 2 = nI ho) (e5 : h 62 9 = nI bf) (e6 : h 62 10 = nI bc) : ∃ h', avE 1 111 [.ref 62, .int (nI b), .int (nI lg)] (sX L t lt rt rp sw h gl) (none, sX L t lt rt rp sw h' gl) ∧ CF [62, 64, 65, 66] h h' ∧ (∀ k, k ≠ 1 → k < 5 → h' 62 k = h 62 k) ∧ h' 62 1 = nI (si - 1) ∧ h' 64 = va_up (h 64) b (nI (min 9 (md + 1))) ∧ h' 65 = va_up (h 65) b (nI (min 999 (kk + 1))) ∧ h' 66 = va_up (h 66) ((bf + bc) % 30) (nI ((ho * 8 + b) * 16 + lg)) ∧ h' 62 9 = nI (if bc < 30 then bf else (bf + 1) % 30) ∧ h' 62 10 = nI (if bc < 30 then bc + 1 else bc) := by
  by_cases c : bc < 30
  · refine ⟨mvPut (mvPut (mvPut (mvPut (mvPut h 64 b (nI (min 9 (md + 1)))) 65 b (nI (min 999 (kk + 1)))) 62 1 (nI (si - 1))) 66 ((bf + bc) % 30) (nI ((ho * 8 + b) * 16 + lg))) 62 10 (nI (bc + 1)), ?_, CF_put (CF_put (CF_put (CF_put (CF_put CF_refl rfl) rfl) rfl) rfl) rfl, ?_, rfl, rfl, rfl, rfl, ?_, ?_⟩
    · show avA _ 111 0 [.ref 62, .int (nI (b)), .int (nI (lg))] [] _ _
      refine a_aload_0 rfl rfl ?_
      refine a_getr rfl rfl rfl (fun _ _ _ => rfl) rfl ?_
      refine a_iload_1 rfl rfl ?_
      refine a_bipush (v := (nI 9)) rfl rfl rfl ?_
      refine a_aload_0 rfl rfl ?_
      refine a_getr rfl rfl rfl (fun _ _ _ => rfl) rfl ?_
      refine a_iload_1 rfl rfl ?_
      refine a_iald rfl rfl (Or.inl rfl) rfl (by omega) (by decide) ?_
      refine a_as (y := nI (md)) e1 ?_
      refine a_iconst (v := (nI 1)) rfl rfl rfl ?_
      refine a_iaddN rfl rfl ?_
      refine a_minN rfl rfl (Nat.le_of_ble_eq_true rfl) (by omega) (by omega) ?_
      refine a_iast rfl rfl rfl rfl (by omega) (by decide) ?_
      refine a_aload_0 rfl rfl ?_
      refine a_getr rfl rfl rfl (fun _ _ _ => rfl) rfl ?_
      refine a_iload_1 rfl rfl ?_
      refine a_sipush (v := (nI 999)) rfl rfl rfl ?_
      refine a_aload_0 rfl rfl ?_
      refine a_getr rfl rfl rfl (fun _ _ _ => rfl) rfl ?_
      refine a_iload_1 rfl rfl ?_
      refine a_iald rfl rfl (Or.inl rfl) rfl (by omega) (by decide) ?_
      refine a_as (y := nI (kk)) e2 ?_
      refine a_iconst (v := (nI 1)) rfl rfl rfl ?_
      refine a_iaddN rfl rfl ?_
      refine a_minN rfl rfl (Nat.le_of_ble_eq_true rfl) (by omega) (by omega) ?_
      refine a_iast rfl rfl rfl rfl (by omega) (by decide) ?_
      refine a_aload_0 rfl rfl ?_
      refine a_iconst (v := iI (0)) rfl rfl rfl ?_
      refine a_aload_0 rfl rfl ?_
      refine a_geti rfl rfl rfl (fun _ _ _ => rfl) ?_
      refine a_as (y := iI ((si : Int))) (e3.trans (iI_nat si).symm) ?_
      refine a_iconst (v := iI (1)) rfl rfl rfl ?_
      refine a_isubZ rfl rfl ?_
      refine a_maxZ rfl rfl (Nat.le_of_ble_eq_true rfl) (by omega) (by omega) ?_
      refine a_as (y := nI (si - 1)) (by rw [← iI_nat]; congr 1; omega) ?_
      refine a_puti rfl rfl rfl rfl ?_
      refine a_aload_0 rfl rfl ?_
      refine a_getr rfl rfl rfl (fun _ _ _ => rfl) rfl ?_
      refine a_aload_0 rfl rfl ?_
      refine a_geti rfl rfl rfl (fun _ _ _ => rfl) ?_
      refine a_as (y := nI (bf)) e5 ?_
      refine a_aload_0 rfl rfl ?_
      refine a_geti rfl rfl rfl (fun _ _ _ => rfl) ?_
      refine a_as (y := nI (bc)) e6 ?_
      refine a_iaddN rfl rfl ?_
      refine a_bipush (v := (nI 30)) rfl rfl rfl ?_
      refine a_iremN rfl rfl (by omega) (by omega) (by omega) ?_
      refine a_aload_0 rfl rfl ?_
      refine a_geti rfl rfl rfl (fun _ _ _ => rfl) ?_
      refine a_as (y := nI (ho)) e4 ?_
      refine a_iload_1 rfl rfl ?_
      refine a_iload_2 rfl rfl ?_
      refine a_statI rfl rfl (e_packKick ho b lg (by omega) (by omega) (by omega)) (Nat.le_of_ble_eq_true rfl) ⟨rfl, rfl, rfl⟩ rfl rfl rfl (Nat.le_of_ble_eq_true rfl) rfl ?_
      refine a_iast rfl rfl rfl rfl (by omega) (by decide) ?_
      refine a_aload_0 rfl rfl ?_
      refine a_geti rfl rfl rfl (fun _ _ _ => rfl) ?_
      refine a_as (y := nI (bc)) e6 ?_
      refine a_bipush (v := (nI 30)) rfl rfl rfl ?_
      refine a_cmpN_ge rfl rfl rfl (by omega) (by omega) (fun c_85 => False.elim (by omega)) (fun _ => ?_)
      refine a_aload_0 rfl rfl ?_
      refine a_dup rfl rfl rfl ?_
      refine a_geti rfl rfl rfl (fun _ _ _ => rfl) ?_
      refine a_as (y := nI (bc)) e6 ?_
      refine a_iconst (v := (nI 1)) rfl rfl rfl ?_
      refine a_iaddN rfl rfl ?_
      refine a_puti rfl rfl rfl rfl ?_
      refine a_goto rfl rfl ?_
      exact a_vret rfl rfl
    · intro k h1 h5
      match k, h1, h5 with
      | 0, _, _ => rfl
      | 2, _, _ => rfl
      | 3, _, _ => rfl
      | 4, _, _ => rfl
    · rw [if_pos c]; exact e5
    · rw [if_pos c]; rfl
  · have c30 : bc = 30 := by omega
    subst c30
    refine ⟨mvPut (mvPut (mvPut (mvPut (mvPut h 64 b (nI (min 9 (md + 1)))) 65 b (nI (min 999 (kk + 1)))) 62 1 (nI (si - 1))) 66 ((bf + 30) % 30) (nI ((ho * 8 + b) * 16 + lg))) 62 9 (nI ((bf + 1) % 30)), ?_, CF_put (CF_put (CF_put (CF_put (CF_put CF_refl rfl) rfl) rfl) rfl) rfl, ?_, rfl, rfl, rfl, rfl, ?_, ?_⟩
    · show avA _ 111 0 [.ref 62, .int (nI (b)), .int (nI (lg))] [] _ _
      refine a_aload_0 rfl rfl ?_
      refine a_getr rfl rfl rfl (fun _ _ _ => rfl) rfl ?_
      refine a_iload_1 rfl rfl ?_
      refine a_bipush (v := (nI 9)) rfl rfl rfl ?_
      refine a_aload_0 rfl rfl ?_
      refine a_getr rfl rfl rfl (fun _ _ _ => rfl) rfl ?_
      refine a_iload_1 rfl rfl ?_
      refine a_iald rfl rfl (Or.inl rfl) rfl (by omega) (by decide) ?_
      refine a_as (y := nI (md)) e1 ?_
      refine a_iconst (v := (nI 1)) rfl rfl rfl ?_
      refine a_iaddN rfl rfl ?_
      refine a_minN rfl rfl (Nat.le_of_ble_eq_true rfl) (by omega) (by omega) ?_
      refine a_iast rfl rfl rfl rfl (by omega) (by decide) ?_
      refine a_aload_0 rfl rfl ?_
      refine a_getr rfl rfl rfl (fun _ _ _ => rfl) rfl ?_
      refine a_iload_1 rfl rfl ?_
      refine a_sipush (v := (nI 999)) rfl rfl rfl ?_
      refine a_aload_0 rfl rfl ?_
      refine a_getr rfl rfl rfl (fun _ _ _ => rfl) rfl ?_
      refine a_iload_1 rfl rfl ?_
      refine a_iald rfl rfl (Or.inl rfl) rfl (by omega) (by decide) ?_
      refine a_as (y := nI (kk)) e2 ?_
      refine a_iconst (v := (nI 1)) rfl rfl rfl ?_
      refine a_iaddN rfl rfl ?_
      refine a_minN rfl rfl (Nat.le_of_ble_eq_true rfl) (by omega) (by omega) ?_
      refine a_iast rfl rfl rfl rfl (by omega) (by decide) ?_
      refine a_aload_0 rfl rfl ?_
      refine a_iconst (v := iI (0)) rfl rfl rfl ?_
      refine a_aload_0 rfl rfl ?_
      refine a_geti rfl rfl rfl (fun _ _ _ => rfl) ?_
      refine a_as (y := iI ((si : Int))) (e3.trans (iI_nat si).symm) ?_
      refine a_iconst (v := iI (1)) rfl rfl rfl ?_
      refine a_isubZ rfl rfl ?_
      refine a_maxZ rfl rfl (Nat.le_of_ble_eq_true rfl) (by omega) (by omega) ?_
      refine a_as (y := nI (si - 1)) (by rw [← iI_nat]; congr 1; omega) ?_
      refine a_puti rfl rfl rfl rfl ?_
      refine a_aload_0 rfl rfl ?_
      refine a_getr rfl rfl rfl (fun _ _ _ => rfl) rfl ?_
      refine a_aload_0 rfl rfl ?_
      refine a_geti rfl rfl rfl (fun _ _ _ => rfl) ?_
      refine a_as (y := nI (bf)) e5 ?_
      refine a_aload_0 rfl rfl ?_
      refine a_geti rfl rfl rfl (fun _ _ _ => rfl) ?_
      refine a_as (y := nI (30)) e6 ?_
      refine a_iaddN rfl rfl ?_
      refine a_bipush (v := (nI 30)) rfl rfl rfl ?_
      refine a_iremN rfl rfl (by omega) (by omega) (by omega) ?_
      refine a_aload_0 rfl rfl ?_
      refine a_geti rfl rfl rfl (fun _ _ _ => rfl) ?_
      refine a_as (y := nI (ho)) e4 ?_
      refine a_iload_1 rfl rfl ?_
      refine a_iload_2 rfl rfl ?_
      refine a_statI rfl rfl (e_packKick ho b lg (by omega) (by omega) (by omega)) (Nat.le_of_ble_eq_true rfl) ⟨rfl, rfl, rfl⟩ rfl rfl rfl (Nat.le_of_ble_eq_true rfl) rfl ?_
      refine a_iast rfl rfl rfl rfl (by omega) (by decide) ?_
      refine a_aload_0 rfl rfl ?_
      refine a_geti rfl rfl rfl (fun _ _ _ => rfl) ?_
      refine a_as (y := nI (30)) e6 ?_
      refine a_bipush (v := (nI 30)) rfl rfl rfl ?_
      refine a_cmpN_ge rfl rfl rfl (by omega) (by omega) (fun _ => ?_) (fun c_85 => False.elim (by omega))
      refine a_aload_0 rfl rfl ?_
      refine a_aload_0 rfl rfl ?_
      refine a_geti rfl rfl rfl (fun _ _ _ => rfl) ?_
      refine a_as (y := nI (bf)) e5 ?_
      refine a_iconst (v := (nI 1)) rfl rfl rfl ?_
      refine a_iaddN rfl rfl ?_
      refine a_bipush (v := (nI 30)) rfl rfl rfl ?_
      refine a_iremN rfl rfl (by omega) (by omega) (by omega) ?_
      refine a_puti rfl rfl rfl rfl ?_
      exact a_vret rfl rfl
    · intro k h1 h5
      match k, h1, h5 with
      | 0, _, _ => rfl
      | 2, _, _ => rfl
      | 3, _, _ => rfl
      | 4, _, _ => rfl
    · rw [if_neg c]; rfl
    · rw [if_neg c]; exact e6
/-- the beasts of an hour, from the b-th on -/
theorem l_pass_62 (wr : Bool) (fl : Nat → Option (E1 → Int)) (A : Nat → Int32) (R ho sz : Nat) (mo : Int32) (y1 : Value) (n : Nat) (hn : n ≤ 5) (j : Nat) : ∀ (b kk : Nat) (B : Nat → Int32) (h : Nat → Nat → Int32), b + j = n → gN B 0 = n → kk ≤ b → rOK B → MR 62 B h → BK wr 62 B h → LW fl A h t lt mo R ho sz → ∃ h', avA 5 98 65 [.ref 8, y1, .ref 62, .int (nI kk), .int (nI b)] [] (sX L t lt rt rp sw h gl) (some (.int (nI (lvR wr (fun B b => kcV fl A ho sz mo (B (14 + 5 * b)) (B (13 + 5 * b)) b) (fun B b => ltC (fl 0) A ho sz mo (B (13 + 5 * b))) j b B kk).2)), sX L t lt rt rp sw (mvPut h' 62 2 (h' 62 2 + nI 1)) gl) ∧ CF [62, 64, 65, 66, 34, 35, 37, 38, 39] h h' ∧ MR 62 (lvR wr (fun B b => kcV fl A ho sz mo (B (14 + 5 * b)) (B (13 + 5 * b)) b) (fun B b => ltC (fl 0) A ho sz mo (B (13 + 5 * b))) j b B kk).1 h' ∧ BK wr 62 (lvR wr (fun B b => kcV fl A ho sz mo (B (14 + 5 * b)) (B (13 + 5 * b)) b) (fun B b => ltC (fl 0) A ho sz mo (B (13 + 5 * b))) j b B kk).1 h' ∧ LWf (fl 0) A h' R ho sz := by
  induction j with
  | zero =>
    intro b kk B h hbj h0 hkk hB hM hK H
    refine ⟨h, ?_, CF_refl, hM, hK, H.2.1⟩
    have e4 : h 62 4 = nI n := by rw [hM.2.2.2.2.1, ← h0]; exact gN_eq hB (by omega) (by decide)
    refine a_iload_4 rfl rfl ?_
    refine a_aload_2 rfl rfl ?_
    refine a_geti rfl rfl rfl (fun _ _ _ => rfl) ?_
    refine a_as (y := nI (n)) e4 ?_
    refine a_cmpN_ge rfl rfl rfl (by omega) (by omega) (fun _ => ?_) (fun c_71 => False.elim (by omega))
    refine a_aload_2 rfl rfl ?_
    refine a_dup rfl rfl rfl ?_
    refine a_geti rfl rfl rfl (fun _ _ _ => rfl) ?_
    refine a_iconst (v := (nI 1)) rfl rfl rfl ?_
    refine a_iadd rfl rfl ?_
    refine a_puti rfl rfl rfl rfl ?_
    refine a_iload_3 rfl rfl ?_
    exact a_iret rfl rfl
  | succ j ih =>
    intro b kk B h hbj h0 hkk hB hM hK H
    have hb : b < 5 := by omega
    obtain ⟨a0, a1, a2, a3, a4, ab⟩ := hM
    obtain ⟨b1, b2, b3⟩ := ab b (by omega)
    have e4 : h 62 4 = nI n := by rw [a4, ← h0]; exact gN_eq hB (by omega) (by decide)
    have x11 := gN_le (m := 30558) hB (i := 11) (by omega) (by decide)
    have e3 : h 62 3 = nI (gN B 11) := a3.trans (gN_eq hB (by omega) (by decide))
    have Cd := e_draw_62 (L := L) (t := t) (lt := lt) (rt := rt) (rp := rp) (sw := sw) (gl := gl) (gN B 11) (by omega) e3
    let h1 : Nat → Nat → Int32 := mvPut h 62 3 (nI ((gN B 11 * 439 + 317) % 30559))
    have c1 : CF [62] h h1 := CF_put CF_refl rfl
    have H1 : LW fl A h1 t lt mo R ho sz := LW_cf rfl (fun p hp => by simp; omega) H c1 H.2.1
    have M1 : MR 62 (drA B) h1 := MR_draw ⟨a0, a1, a2, a3, a4, ab⟩ (fun k h3 h5 => by
      match k, h3, h5 with
      | 0, _, _ => rfl
      | 1, _, _ => rfl
      | 2, _, _ => rfl
      | 4, _, _ => rfl) rfl rfl rfl rfl
    have K1 : BK wr 62 (drA B) h1 := BK_stay hK rfl rfl rfl rfl (fun i hi => drA_ne (by omega))
    have bm := hB (14 + 5 * b) (by omega)
    have ba := hB (13 + 5 * b) (by omega)
    unfold inB at bm ba
    rw [bd_mood hb] at bm
    rw [bd_at hb] at ba
    dsimp only at bm ba
    have hD := drA_OK hB
    have hD0 : gN (drA B) 0 = n := (gN_ne (by omega)).trans h0
    obtain ⟨h2, Ck, c2, f2⟩ := e_kicksOf_62 (L := L) (t := t) (lt := lt) (rt := rt) (rp := rp) (sw := sw) (gl := gl) (h := h1) fl A mo R ho sz b hb H1 (by show 0 ≤ (h 64 b).toInt ∧ (h 64 b).toInt ≤ 9999; rw [b2]; omega) (by show 0 ≤ (h 63 b).toInt ∧ (h 63 b).toInt ≤ 9999; rw [b1]; omega)
    have ekc : kcV fl A ho sz mo (h1 64 b) (h1 63 b) b = kcV fl A ho sz mo (B (14 + 5 * b)) (B (13 + 5 * b)) b := by
      show kcV fl A ho sz mo (h 64 b) (h 63 b) b = _
      rw [b1, b2]
    rw [ekc] at Ck
    have H2 : LW fl A h2 t lt mo R ho sz := LW_cf rfl (fun p hp => by simp; omega) H1 c2 f2
    have hkc := kcV_le fl A ho sz mo (B (14 + 5 * b)) (B (13 + 5 * b)) b
    have q0 : h2 62 = h1 62 := c2 62 rfl
    have q1 : h2 63 = h1 63 := c2 63 rfl
    have q2 : h2 64 = h1 64 := c2 64 rfl
    have q3 : h2 65 = h1 65 := c2 65 rfl
    have q4 : h2 66 = h1 66 := c2 66 rfl
    by_cases hk : gN B 11 % 10 < kcV fl A ho sz mo (B (14 + 5 * b)) (B (13 + 5 * b)) b
    · obtain ⟨h3, Cl, c3, f3⟩ := e_lightAt (L := L) (t := t) (lt := lt) (rt := rt) (rp := rp) (sw := sw) (gl := gl) fl A mo (B (13 + 5 * b)) R ho sz H2
      have hlg := ltC_le (fl 0) A ho sz mo (B (13 + 5 * b))
      have H3 : LW fl A h3 t lt mo R ho sz := LW_cf rfl (fun p hp => by simp; omega) H2 c3 f3
      have w0 : h3 62 = h1 62 := (c3 62 rfl).trans q0
      have w1 : h3 63 = h1 63 := (c3 63 rfl).trans q1
      have w2 : h3 64 = h1 64 := (c3 64 rfl).trans q2
      have w3 : h3 65 = h1 65 := (c3 65 rfl).trans q3
      have w4 : h3 66 = h1 66 := (c3 66 rfl).trans q4
      have M3 : MR 62 (drA B) h3 := by
        unfold MR at M1 ⊢
        rw [w0, w1, w2, w3]
        exact M1
      obtain ⟨bf, bc, k1, k2, k3, k4, k5⟩ := K1
      obtain ⟨m0, m1, m2, m3, m4, mb⟩ := M3
      obtain ⟨n1, n2, n3⟩ := mb b (by omega)
      obtain ⟨h4, Cq, c4, p0, p1, p2, p3, p4, p9, p10⟩ := e_kick_62 (L := L) (t := t) (lt := lt) (rt := rt) (rp := rp) (sw := sw) (gl := gl) (h := h3) b (ltC (fl 0) A ho sz mo (B (13 + 5 * b))) (gN (drA B) (14 + 5 * b)) (gN (drA B) (15 + 5 * b)) (gN (drA B) 10) (gN (drA B) 8) bf bc hb hlg (gN_le (m := 9) hD (by omega) (by rw [bd_mood hb]; decide)) (gN_le (m := 999) hD (by omega) (by rw [bd_kick hb]; decide)) (gN_le (m := 9999) hD (by omega) (by decide)) (gN_le (m := 9999) hD (by omega) (by decide)) k1 k2 (n2.trans (gN_eq hD (by omega) (by rw [bd_mood hb]; decide))) (n3.trans (gN_eq hD (by omega) (by rw [bd_kick hb]; decide))) (m1.trans (gN_eq hD (by omega) (by decide))) (m2.trans (gN_eq hD (by omega) (by decide))) (by rw [w0]; exact k3) (by rw [w0]; exact k4)
      have M4 : MR 62 (kkA wr (ltC (fl 0) A ho sz mo (B (13 + 5 * b))) b (drA B)) h4 := MR_kick (by omega) ⟨m0, m1, m2, m3, m4, mb⟩ p0 p1 (c4 63 rfl) p2 p3
      have K4 : BK wr 62 (kkA wr (ltC (fl 0) A ho sz mo (B (13 + 5 * b))) b (drA B)) h4 := BK_kick (h := h3) hb k1 k2 (fun hw => ⟨(k5 hw).1, fun i hi => by show h3 66 _ = _; rw [w4]; exact (k5 hw).2 i hi⟩) p9 p10 p4
      have H4 : LW fl A h4 t lt mo R ho sz := LW_cf rfl (fun p hp => by simp; omega) H3 c4 (by have e39 : h4 39 = h3 39 := c4 39 rfl; unfold LWf; rw [e39]; exact f3)
      have O4 := kkA_OK (wr := wr) hb hlg hD
      have z0 : gN (kkA wr (ltC (fl 0) A ho sz mo (B (13 + 5 * b))) b (drA B)) 0 = n := by
        unfold gN
        rw [kkA_lo (by omega) (by omega), k3A_ne (by omega) (by omega) (by omega)]
        exact hD0
      obtain ⟨h', A5, c5, M5, K5, f5⟩ := ih (b + 1) (kk + 1) _ h4 (by omega) z0 (by omega) O4 M4 K4 H4
      have el : ∀ kf lf : (Nat → Int32) → Nat → Nat, kf B b = kcV fl A ho sz mo (B (14 + 5 * b)) (B (13 + 5 * b)) b → lf B b = ltC (fl 0) A ho sz mo (B (13 + 5 * b)) → lvR wr kf lf (j + 1) b B kk = lvR wr kf lf j (b + 1) (kkA wr (ltC (fl 0) A ho sz mo (B (13 + 5 * b))) b (drA B)) (kk + 1) := by
        intro kf lf e1 e2
        rw [lvR, e1, e2, if_pos hk]
        unfold lvA
        rw [if_pos hk]
      rw [el _ _ rfl rfl]
      refine ⟨h', ?_, CF_trans (CF_mono (by decide) c1) (CF_trans (CF_mono (by decide) c2) (CF_trans (CF_mono (by decide) c3) (CF_trans (CF_mono (by decide) c4) c5))), M5, K5, f5⟩
      refine a_iload_4 rfl rfl ?_
      refine a_aload_2 rfl rfl ?_
      refine a_geti rfl rfl rfl (fun _ _ _ => rfl) ?_
      refine a_as (y := nI (n)) e4 ?_
      refine a_cmpN_ge rfl rfl rfl (by omega) (by omega) (fun c_71 => False.elim (by omega)) (fun _ => ?_)
      refine a_aload_2 rfl rfl ?_
      refine a_virtI rfl rfl (Cd) (Nat.le_of_ble_eq_true rfl) ⟨rfl, rfl, rfl, rfl⟩ rfl rfl rfl (Nat.le_of_ble_eq_true rfl) rfl rfl ?_
      refine a_bipush (v := (nI 10)) rfl rfl rfl ?_
      refine a_iremN rfl rfl (by omega) (by omega) (by omega) ?_
      refine a_aload_0 rfl rfl ?_
      refine a_aload_2 rfl rfl ?_
      refine a_iload_4 rfl rfl ?_
      refine a_virtI rfl rfl (Ck) (Nat.le_of_ble_eq_true rfl) ⟨rfl, rfl, rfl, rfl⟩ rfl rfl rfl (Nat.le_of_ble_eq_true rfl) rfl rfl ?_
      refine a_cmpN_ge rfl rfl rfl (by omega) (by omega) (fun c_88 => False.elim (by omega)) (fun _ => ?_)
      refine a_aload_2 rfl rfl ?_
      refine a_iload_4 rfl rfl ?_
      refine a_aload_0 rfl rfl ?_
      refine a_aload_2 rfl rfl ?_
      refine a_getr rfl rfl rfl (fun _ _ _ => rfl) rfl ?_
      refine a_iload_4 rfl rfl ?_
      refine a_iald rfl rfl (Or.inl rfl) rfl (by omega) (by decide) ?_
      refine a_as (y := B (13 + 5 * b)) (by rw [q1]; exact b1) ?_
      refine a_virtI rfl rfl (Cl) (Nat.le_of_ble_eq_true rfl) ⟨rfl, rfl, rfl, rfl⟩ rfl rfl rfl (Nat.le_of_ble_eq_true rfl) rfl rfl ?_
      refine a_virt0 rfl rfl (Cq) (Nat.le_of_ble_eq_true rfl) ⟨rfl, rfl, rfl, rfl⟩ rfl rfl rfl (Nat.le_of_ble_eq_true rfl) rfl rfl ?_
      refine a_iinc_3 rfl rfl (nI_inc _ _) rfl ?_
      refine a_goto rfl rfl ?_
      refine a_iinc_4 rfl rfl (nI_inc _ _) rfl ?_
      refine a_goto rfl rfl ?_
      exact A5
    · have hMd : h2 64 b = nI (gN (drA B) (14 + 5 * b)) := by
        rw [q2]
        exact ((M1.2.2.2.2.2 b (by omega)).2.1).trans (gN_eq hD (by omega) (by rw [bd_mood hb]; decide))
      have hmd9 := gN_le (m := 9) hD (i := 14 + 5 * b) (by omega) (by rw [bd_mood hb]; decide)
      let h4 : Nat → Nat → Int32 := mvPut h2 64 b (nI (gN (drA B) (14 + 5 * b) - 1))
      have c4 : CF [64] h2 h4 := CF_put CF_refl rfl
      have M2 : MR 62 (drA B) h2 := by
        unfold MR at M1 ⊢
        rw [q0, q1, q2, q3]
        exact M1
      have M4 : MR 62 (mdA b (drA B)) h4 := MR_mood (by omega) M2 rfl rfl rfl rfl
      have K4 : BK wr 62 (mdA b (drA B)) h4 := BK_stay K1 (by show h2 62 9 = _; rw [q0]) (by show h2 62 10 = _; rw [q0]) (by show h2 66 = _; rw [q4]) (va_up_ne _ _ (by omega)) (fun i hi => va_up_ne _ _ (by omega))
      have H4 : LW fl A h4 t lt mo R ho sz := LW_cf rfl (fun p hp => by simp; omega) H2 c4 f2
      have O4 := mdA_OK hb hD
      have z0 : gN (mdA b (drA B)) 0 = n := (gN_ne (by omega)).trans hD0
      obtain ⟨h', A5, c5, M5, K5, f5⟩ := ih (b + 1) kk _ h4 (by omega) z0 (by omega) O4 M4 K4 H4
      have el : ∀ kf lf : (Nat → Int32) → Nat → Nat, kf B b = kcV fl A ho sz mo (B (14 + 5 * b)) (B (13 + 5 * b)) b → lvR wr kf lf (j + 1) b B kk = lvR wr kf lf j (b + 1) (mdA b (drA B)) kk := by
        intro kf lf e1
        rw [lvR, e1, if_neg hk]
        unfold lvA
        rw [if_neg hk]
        rfl
      rw [el _ _ rfl]
      refine ⟨h', ?_, CF_trans (CF_mono (by decide) c1) (CF_trans (CF_mono (by decide) c2) (CF_trans (CF_mono (by decide) c4) c5)), M5, K5, f5⟩
      refine a_iload_4 rfl rfl ?_
      refine a_aload_2 rfl rfl ?_
      refine a_geti rfl rfl rfl (fun _ _ _ => rfl) ?_
      refine a_as (y := nI (n)) e4 ?_
      refine a_cmpN_ge rfl rfl rfl (by omega) (by omega) (fun c_71 => False.elim (by omega)) (fun _ => ?_)
      refine a_aload_2 rfl rfl ?_
      refine a_virtI rfl rfl (Cd) (Nat.le_of_ble_eq_true rfl) ⟨rfl, rfl, rfl, rfl⟩ rfl rfl rfl (Nat.le_of_ble_eq_true rfl) rfl rfl ?_
      refine a_bipush (v := (nI 10)) rfl rfl rfl ?_
      refine a_iremN rfl rfl (by omega) (by omega) (by omega) ?_
      refine a_aload_0 rfl rfl ?_
      refine a_aload_2 rfl rfl ?_
      refine a_iload_4 rfl rfl ?_
      refine a_virtI rfl rfl (Ck) (Nat.le_of_ble_eq_true rfl) ⟨rfl, rfl, rfl, rfl⟩ rfl rfl rfl (Nat.le_of_ble_eq_true rfl) rfl rfl ?_
      refine a_cmpN_ge rfl rfl rfl (by omega) (by omega) (fun _ => ?_) (fun c_88 => False.elim (by omega))
      refine a_aload_2 rfl rfl ?_
      refine a_getr rfl rfl rfl (fun _ _ _ => rfl) rfl ?_
      refine a_iload_4 rfl rfl ?_
      refine a_iconst (v := iI (0)) rfl rfl rfl ?_
      refine a_aload_2 rfl rfl ?_
      refine a_getr rfl rfl rfl (fun _ _ _ => rfl) rfl ?_
      refine a_iload_4 rfl rfl ?_
      refine a_iald rfl rfl (Or.inl rfl) rfl (by omega) (by decide) ?_
      refine a_as (y := iI ((gN (drA B) (14 + 5 * b) : Int))) (hMd.trans (iI_nat _).symm) ?_
      refine a_iconst (v := iI (1)) rfl rfl rfl ?_
      refine a_isubZ rfl rfl ?_
      refine a_maxZ rfl rfl (Nat.le_of_ble_eq_true rfl) (by omega) (by omega) ?_
      refine a_as (y := nI (gN (drA B) (14 + 5 * b) - 1)) (by rw [← iI_nat]; congr 1; omega) ?_
      refine a_iast rfl rfl rfl rfl (by omega) (by decide) ?_
      refine a_iinc_4 rfl rfl (nI_inc _ _) rfl ?_
      refine a_goto rfl rfl ?_
      exact A5
end HO
