/-! the class tables, by evaluation -/
theorem mv_13 {P : Nat → Prop} (h0 : P 0) (h1 : P 1) (h2 : P 2) (h3 : P 3) (h4 : P 4) (h5 : P 5) (h6 : P 6) (h7 : P 7) (h8 : P 8) (h9 : P 9) (h10 : P 10) (h11 : P 11) (h12 : P 12) : ∀ a, a < 13 → P a := by
  intro a h
  rcases (show a = 0 ∨ a = 1 ∨ a = 2 ∨ a = 3 ∨ a = 4 ∨ a = 5 ∨ a = 6 ∨ a = 7 ∨ a = 8 ∨ a = 9 ∨ a = 10 ∨ a = 11 ∨ a = 12 by omega) with rfl | rfl | rfl | rfl | rfl | rfl | rfl | rfl | rfl | rfl | rfl | rfl | rfl <;> assumption
theorem mv_gc : ∀ a, a < 13 → gC[a]? = some (mvCn a, mvF a, mvNf a) := mv_13 rfl rfl rfl rfl rfl rfl rfl rfl rfl rfl rfl rfl rfl
def mvLayOk (a : Nat) : Bool := (u_ws (mvCn a) (mvF a) (mvNf a)).all fun w => decide (w ∈ lw_tbl) && mvKeep w
theorem mv_lay0 : ∀ a, a < 13 → mvLayOk a = true := mv_13 (by decide +kernel) (by decide +kernel) (by decide +kernel) (by decide +kernel) (by decide +kernel) (by decide +kernel) (by decide +kernel) (by decide +kernel) (by decide +kernel) (by decide +kernel) (by decide +kernel) (by decide +kernel) (by decide +kernel)
theorem mv_lay {a : Nat} (h : a < 13) : ∀ w ∈ u_ws (mvCn a) (mvF a) (mvNf a), w ∈ mvWs := by
  intro w hw
  have h1 := List.all_eq_true.mp (mv_lay0 a h) w hw
  rw [Bool.and_eq_true] at h1
  exact List.mem_filter.mpr ⟨of_decide_eq_true h1.1, h1.2⟩
def mvFldOk (a : Nat) : Bool := (List.range (mvNf a)).all fun b => decide ((mvF a b).1 = mvCn a) && decide (parseFieldDescriptor (mvF a b).2.2.1 = some (gTy a b)) && (match mvFk a b with
  | 0 => decide (gTy a b = .int)
  | 1 => decide (gTy a b = .long)
  | 2 => (gTy a b).isReference
  | 3 => decide (gTy a b = .boolean)
  | _ => false) && decide (defaultValue (gTy a b) = mvFv a b (fun _ => 0) (fun _ => 0) (fun _ => none)) && (List.range (mvNf a)).all fun d => decide (b = d) || decide ((mvF a b).2.1 ≠ (mvF a d).2.1)
theorem mv_fld0 : ∀ a, a < 13 → mvFldOk a = true := mv_13 (by decide +kernel) (by decide +kernel) (by decide +kernel) (by decide +kernel) (by decide +kernel) (by decide +kernel) (by decide +kernel) (by decide +kernel) (by decide +kernel) (by decide +kernel) (by decide +kernel) (by decide +kernel) (by decide +kernel)
theorem mv_fld {a b : Nat} (h : a < 13) (hb : b < mvNf a) : (mvF a b).1 = mvCn a ∧ parseFieldDescriptor (mvF a b).2.2.1 = some (gTy a b) ∧ ((mvFk a b = 0 ∧ gTy a b = .int) ∨ (mvFk a b = 1 ∧ gTy a b = .long) ∨ (mvFk a b = 2 ∧ (gTy a b).isReference = true) ∨ (mvFk a b = 3 ∧ gTy a b = .boolean)) ∧ defaultValue (gTy a b) = mvFv a b (fun _ => 0) (fun _ => 0) (fun _ => none) ∧ ∀ d, d < mvNf a → b ≠ d → (mvF a b).2.1 ≠ (mvF a d).2.1 := by
  have h1 := List.all_eq_true.mp (mv_fld0 a h) b (List.mem_range.mpr hb)
  simp only [Bool.and_eq_true] at h1
  obtain ⟨⟨⟨⟨h2, h3⟩, h4⟩, h5⟩, h6⟩ := h1
  refine ⟨of_decide_eq_true h2, of_decide_eq_true h3, ?_, of_decide_eq_true h5, fun d hd hne => ?_⟩
  · generalize mvFk a b = z at h4
    match z, h4 with
    | 0, h4 => exact Or.inl ⟨rfl, of_decide_eq_true h4⟩
    | 1, h4 => exact Or.inr (Or.inl ⟨rfl, of_decide_eq_true h4⟩)
    | 2, h4 => exact Or.inr (Or.inr (Or.inl ⟨rfl, h4⟩))
    | 3, h4 => exact Or.inr (Or.inr (Or.inr ⟨rfl, of_decide_eq_true h4⟩))
    | n + 4, h4 => cases h4
  · have h7 := List.all_eq_true.mp h6 d (List.mem_range.mpr hd)
    rw [Bool.or_eq_true] at h7
    rcases h7 with h7 | h7
    · exact absurd (of_decide_eq_true h7) hne
    · exact of_decide_eq_true h7
/-- words that many use -/
def mvIsW (c : Cond) : Bool := decide (c ∈ lw_tbl) && mvKeep c
theorem mv_is {c : Cond} (h : mvIsW c = true) {A : Array Value} {s : State} (hts : ∀ w ∈ mvWs, w.before A s = true) : c.before A s = true := by
  unfold mvIsW at h
  rw [Bool.and_eq_true] at h
  exact hts c (List.mem_filter.mpr ⟨of_decide_eq_true h.1, h.2⟩)
theorem mv_newOk : ∀ a, a < 13 → (mvIsW (.instantiable (mvCn a) (mvNf a)) && mvIsW (.initialized (mvCn a))) = true := mv_13 (by decide +kernel) (by decide +kernel) (by decide +kernel) (by decide +kernel) (by decide +kernel) (by decide +kernel) (by decide +kernel) (by decide +kernel) (by decide +kernel) (by decide +kernel) (by decide +kernel) (by decide +kernel) (by decide +kernel)
theorem mv_wArrI : mvIsW (.arrayClass .int) = true := by decide +kernel
theorem mv_wArrL : mvIsW (.arrayClass .long) = true := by decide +kernel
theorem mv_wArrZ : mvIsW (.arrayClass .boolean) = true := by decide +kernel
theorem mv_wCopyN : mvIsW (.native arraycopyName) = true := by decide +kernel
theorem mv_wCopyS : mvIsW (.static arraycopyName) = true := by decide +kernel
theorem mv_wSys : mvIsW (.initialized "java/lang/System") = true := by decide +kernel
theorem mv_wObjI : mvIsW (.instanceMethod Lib.objectInit) = true := by decide +kernel
theorem mv_wObjC : mvIsW (.code Lib.objectInit ⟨#[0xb1]⟩ 1 none) = true := by decide +kernel
theorem mv_nfw : nativeFrameWords "java/lang/System" "arraycopy" 5 ≤ 60 := by decide +kernel
