/-! what a step can be -/
theorem mvC_a {b : Bool} {x y : mvRs} {q : (Nat × List Value × List Value × mvSt) ⊕ ((Option Value × mvSt) ⊕ (Nat × List Value × List Value))} (h : (bif b then x else y) = some q) : x = some q ∨ y = some q := by
  cases b
  · exact Or.inr h
  · exact Or.inl h
/-- a step leads on, and makes no cell fewer -/
def mvOn (σ : mvSt) (x : mvRs) : Prop := ∀ z, x = some z → ∃ q : mvQ, z = .inl q ∧ σ.1.1 ≤ q.2.2.2.1.1 ∧ σ.1.2.1 ≤ q.2.2.2.1.2.1
theorem mvOn_none {σ : mvSt} : mvOn σ none := fun z h => by cases h
theorem mvOn_go {σ σ' : mvSt} {pc : Nat} {L st : List Value} (h : σ'.1 = σ.1) : mvOn σ (mvGo pc L st σ') := by
  intro z hz
  cases hz
  exact ⟨_, rfl, by rw [h]; exact ⟨Nat.le_refl _, Nat.le_refl _⟩⟩
theorem mvOn_make {σ : mvSt} {pc tag size w : Nat} {L st : List Value} : mvOn σ (mvGo pc L st (mvMake σ tag size w)) := by
  intro z hz
  cases hz
  exact ⟨_, rfl, Nat.le_succ _, Nat.le_add_right _ _⟩
theorem mvOn_c {σ : mvSt} {b : Bool} {x y : mvRs} (hx : mvOn σ x) (hy : mvOn σ y) : mvOn σ (bif b then x else y) := by
  cases b
  · exact hy
  · exact hx
theorem mvOn_J {σ σ' : mvSt} {pc : Nat} {off : Int} {L st : List Value} (h : σ'.1 = σ.1) : mvOn σ (mvJ pc off L st σ') := by
  unfold mvJ
  split
  · exact mvOn_go h
  · exact mvOn_none
theorem mvPush_on (pc : Nat) (v : Value) (L st : List Value) (σ : mvSt) : mvOn σ (mvPush pc v L st σ) := by
  unfold mvPush
  repeat' split
  all_goals first
    | exact mvOn_none
    | exact mvOn_go rfl
    | exact mvOn_J rfl
    | exact mvOn_make
    | exact mvOn_c (mvOn_go rfl) mvOn_none
    | exact mvOn_c mvOn_none (mvOn_go rfl)
    | exact mvOn_c mvOn_none mvOn_make
    | exact mvOn_c mvOn_none (mvOn_J rfl)
    | exact mvOn_c (mvOn_J rfl) mvOn_none
    | exact mvOn_c (mvOn_J rfl) (mvOn_go rfl)
    | exact mvOn_c (mvOn_c (mvOn_go rfl) (mvOn_J rfl)) mvOn_none
theorem mvLoadI_on (pc i : Nat) (L st : List Value) (σ : mvSt) : mvOn σ (mvLoadI pc i L st σ) := by
  unfold mvLoadI
  repeat' split
  all_goals first
    | exact mvOn_none
    | exact mvOn_go rfl
    | exact mvOn_J rfl
    | exact mvOn_make
    | exact mvOn_c (mvOn_go rfl) mvOn_none
    | exact mvOn_c mvOn_none (mvOn_go rfl)
    | exact mvOn_c mvOn_none mvOn_make
    | exact mvOn_c mvOn_none (mvOn_J rfl)
    | exact mvOn_c (mvOn_J rfl) mvOn_none
    | exact mvOn_c (mvOn_J rfl) (mvOn_go rfl)
    | exact mvOn_c (mvOn_c (mvOn_go rfl) (mvOn_J rfl)) mvOn_none
theorem mvLoadL_on (pc i : Nat) (L st : List Value) (σ : mvSt) : mvOn σ (mvLoadL pc i L st σ) := by
  unfold mvLoadL
  repeat' split
  all_goals first
    | exact mvOn_none
    | exact mvOn_go rfl
    | exact mvOn_J rfl
    | exact mvOn_make
    | exact mvOn_c (mvOn_go rfl) mvOn_none
    | exact mvOn_c mvOn_none (mvOn_go rfl)
    | exact mvOn_c mvOn_none mvOn_make
    | exact mvOn_c mvOn_none (mvOn_J rfl)
    | exact mvOn_c (mvOn_J rfl) mvOn_none
    | exact mvOn_c (mvOn_J rfl) (mvOn_go rfl)
    | exact mvOn_c (mvOn_c (mvOn_go rfl) (mvOn_J rfl)) mvOn_none
theorem mvLoadA_on (pc i : Nat) (L st : List Value) (σ : mvSt) : mvOn σ (mvLoadA pc i L st σ) := by
  unfold mvLoadA
  repeat' split
  all_goals first
    | exact mvOn_none
    | exact mvOn_go rfl
    | exact mvOn_J rfl
    | exact mvOn_make
    | exact mvOn_c (mvOn_go rfl) mvOn_none
    | exact mvOn_c mvOn_none (mvOn_go rfl)
    | exact mvOn_c mvOn_none mvOn_make
    | exact mvOn_c mvOn_none (mvOn_J rfl)
    | exact mvOn_c (mvOn_J rfl) mvOn_none
    | exact mvOn_c (mvOn_J rfl) (mvOn_go rfl)
    | exact mvOn_c (mvOn_c (mvOn_go rfl) (mvOn_J rfl)) mvOn_none
theorem mvStI_on (pc i : Nat) (L st : List Value) (σ : mvSt) : mvOn σ (mvStI pc i L st σ) := by
  unfold mvStI
  repeat' split
  all_goals first
    | exact mvOn_none
    | exact mvOn_go rfl
    | exact mvOn_J rfl
    | exact mvOn_make
    | exact mvOn_c (mvOn_go rfl) mvOn_none
    | exact mvOn_c mvOn_none (mvOn_go rfl)
    | exact mvOn_c mvOn_none mvOn_make
    | exact mvOn_c mvOn_none (mvOn_J rfl)
    | exact mvOn_c (mvOn_J rfl) mvOn_none
    | exact mvOn_c (mvOn_J rfl) (mvOn_go rfl)
    | exact mvOn_c (mvOn_c (mvOn_go rfl) (mvOn_J rfl)) mvOn_none
theorem mvStL_on (pc i : Nat) (L st : List Value) (σ : mvSt) : mvOn σ (mvStL pc i L st σ) := by
  unfold mvStL
  repeat' split
  all_goals first
    | exact mvOn_none
    | exact mvOn_go rfl
    | exact mvOn_J rfl
    | exact mvOn_make
    | exact mvOn_c (mvOn_go rfl) mvOn_none
    | exact mvOn_c mvOn_none (mvOn_go rfl)
    | exact mvOn_c mvOn_none mvOn_make
    | exact mvOn_c mvOn_none (mvOn_J rfl)
    | exact mvOn_c (mvOn_J rfl) mvOn_none
    | exact mvOn_c (mvOn_J rfl) (mvOn_go rfl)
    | exact mvOn_c (mvOn_c (mvOn_go rfl) (mvOn_J rfl)) mvOn_none
theorem mvStA_on (pc i : Nat) (L st : List Value) (σ : mvSt) : mvOn σ (mvStA pc i L st σ) := by
  unfold mvStA
  repeat' split
  all_goals first
    | exact mvOn_none
    | exact mvOn_go rfl
    | exact mvOn_J rfl
    | exact mvOn_make
    | exact mvOn_c (mvOn_go rfl) mvOn_none
    | exact mvOn_c mvOn_none (mvOn_go rfl)
    | exact mvOn_c mvOn_none mvOn_make
    | exact mvOn_c mvOn_none (mvOn_J rfl)
    | exact mvOn_c (mvOn_J rfl) mvOn_none
    | exact mvOn_c (mvOn_J rfl) (mvOn_go rfl)
    | exact mvOn_c (mvOn_c (mvOn_go rfl) (mvOn_J rfl)) mvOn_none
theorem mvI2_on (f : Int32 → Int32 → Int32) (pc : Nat) (L st : List Value) (σ : mvSt) : mvOn σ (mvI2 f pc L st σ) := by
  unfold mvI2
  repeat' split
  all_goals first
    | exact mvOn_none
    | exact mvOn_go rfl
    | exact mvOn_J rfl
    | exact mvOn_make
    | exact mvOn_c (mvOn_go rfl) mvOn_none
    | exact mvOn_c mvOn_none (mvOn_go rfl)
    | exact mvOn_c mvOn_none mvOn_make
    | exact mvOn_c mvOn_none (mvOn_J rfl)
    | exact mvOn_c (mvOn_J rfl) mvOn_none
    | exact mvOn_c (mvOn_J rfl) (mvOn_go rfl)
    | exact mvOn_c (mvOn_c (mvOn_go rfl) (mvOn_J rfl)) mvOn_none
theorem mvI2z_on (f : Int32 → Int32 → Int32) (pc : Nat) (L st : List Value) (σ : mvSt) : mvOn σ (mvI2z f pc L st σ) := by
  unfold mvI2z
  repeat' split
  all_goals first
    | exact mvOn_none
    | exact mvOn_go rfl
    | exact mvOn_J rfl
    | exact mvOn_make
    | exact mvOn_c (mvOn_go rfl) mvOn_none
    | exact mvOn_c mvOn_none (mvOn_go rfl)
    | exact mvOn_c mvOn_none mvOn_make
    | exact mvOn_c mvOn_none (mvOn_J rfl)
    | exact mvOn_c (mvOn_J rfl) mvOn_none
    | exact mvOn_c (mvOn_J rfl) (mvOn_go rfl)
    | exact mvOn_c (mvOn_c (mvOn_go rfl) (mvOn_J rfl)) mvOn_none
theorem mvI1_on (f : Int32 → Int32) (pc : Nat) (L st : List Value) (σ : mvSt) : mvOn σ (mvI1 f pc L st σ) := by
  unfold mvI1
  repeat' split
  all_goals first
    | exact mvOn_none
    | exact mvOn_go rfl
    | exact mvOn_J rfl
    | exact mvOn_make
    | exact mvOn_c (mvOn_go rfl) mvOn_none
    | exact mvOn_c mvOn_none (mvOn_go rfl)
    | exact mvOn_c mvOn_none mvOn_make
    | exact mvOn_c mvOn_none (mvOn_J rfl)
    | exact mvOn_c (mvOn_J rfl) mvOn_none
    | exact mvOn_c (mvOn_J rfl) (mvOn_go rfl)
    | exact mvOn_c (mvOn_c (mvOn_go rfl) (mvOn_J rfl)) mvOn_none
theorem mvL2_on (f : Int64 → Int64 → Int64) (pc : Nat) (L st : List Value) (σ : mvSt) : mvOn σ (mvL2 f pc L st σ) := by
  unfold mvL2
  repeat' split
  all_goals first
    | exact mvOn_none
    | exact mvOn_go rfl
    | exact mvOn_J rfl
    | exact mvOn_make
    | exact mvOn_c (mvOn_go rfl) mvOn_none
    | exact mvOn_c mvOn_none (mvOn_go rfl)
    | exact mvOn_c mvOn_none mvOn_make
    | exact mvOn_c mvOn_none (mvOn_J rfl)
    | exact mvOn_c (mvOn_J rfl) mvOn_none
    | exact mvOn_c (mvOn_J rfl) (mvOn_go rfl)
    | exact mvOn_c (mvOn_c (mvOn_go rfl) (mvOn_J rfl)) mvOn_none
theorem mvL2z_on (f : Int64 → Int64 → Int64) (pc : Nat) (L st : List Value) (σ : mvSt) : mvOn σ (mvL2z f pc L st σ) := by
  unfold mvL2z
  repeat' split
  all_goals first
    | exact mvOn_none
    | exact mvOn_go rfl
    | exact mvOn_J rfl
    | exact mvOn_make
    | exact mvOn_c (mvOn_go rfl) mvOn_none
    | exact mvOn_c mvOn_none (mvOn_go rfl)
    | exact mvOn_c mvOn_none mvOn_make
    | exact mvOn_c mvOn_none (mvOn_J rfl)
    | exact mvOn_c (mvOn_J rfl) mvOn_none
    | exact mvOn_c (mvOn_J rfl) (mvOn_go rfl)
    | exact mvOn_c (mvOn_c (mvOn_go rfl) (mvOn_J rfl)) mvOn_none
theorem mvLsh_on (f : Int64 → Int64 → Int64) (pc : Nat) (L st : List Value) (σ : mvSt) : mvOn σ (mvLsh f pc L st σ) := by
  unfold mvLsh
  repeat' split
  all_goals first
    | exact mvOn_none
    | exact mvOn_go rfl
    | exact mvOn_J rfl
    | exact mvOn_make
    | exact mvOn_c (mvOn_go rfl) mvOn_none
    | exact mvOn_c mvOn_none (mvOn_go rfl)
    | exact mvOn_c mvOn_none mvOn_make
    | exact mvOn_c mvOn_none (mvOn_J rfl)
    | exact mvOn_c (mvOn_J rfl) mvOn_none
    | exact mvOn_c (mvOn_J rfl) (mvOn_go rfl)
    | exact mvOn_c (mvOn_c (mvOn_go rfl) (mvOn_J rfl)) mvOn_none
theorem mvGet_on (pc c k : Nat) (L st : List Value) (σ : mvSt) : mvOn σ (mvGet pc c k L st σ) := by
  unfold mvGet
  repeat' split
  all_goals first
    | exact mvOn_none
    | exact mvOn_go rfl
    | exact mvOn_J rfl
    | exact mvOn_make
    | exact mvOn_c (mvOn_go rfl) mvOn_none
    | exact mvOn_c mvOn_none (mvOn_go rfl)
    | exact mvOn_c mvOn_none mvOn_make
    | exact mvOn_c mvOn_none (mvOn_J rfl)
    | exact mvOn_c (mvOn_J rfl) mvOn_none
    | exact mvOn_c (mvOn_J rfl) (mvOn_go rfl)
    | exact mvOn_c (mvOn_c (mvOn_go rfl) (mvOn_J rfl)) mvOn_none
theorem mvPutf_on (pc c k : Nat) (L st : List Value) (σ : mvSt) : mvOn σ (mvPutf pc c k L st σ) := by
  unfold mvPutf
  repeat' split
  all_goals first
    | exact mvOn_none
    | exact mvOn_go rfl
    | exact mvOn_J rfl
    | exact mvOn_make
    | exact mvOn_c (mvOn_go rfl) mvOn_none
    | exact mvOn_c mvOn_none (mvOn_go rfl)
    | exact mvOn_c mvOn_none mvOn_make
    | exact mvOn_c mvOn_none (mvOn_J rfl)
    | exact mvOn_c (mvOn_J rfl) mvOn_none
    | exact mvOn_c (mvOn_J rfl) (mvOn_go rfl)
    | exact mvOn_c (mvOn_c (mvOn_go rfl) (mvOn_J rfl)) mvOn_none
theorem mvIald_on (pc : Nat) (L st : List Value) (σ : mvSt) : mvOn σ (mvIald pc L st σ) := by
  unfold mvIald
  repeat' split
  all_goals first
    | exact mvOn_none
    | exact mvOn_go rfl
    | exact mvOn_J rfl
    | exact mvOn_make
    | exact mvOn_c (mvOn_go rfl) mvOn_none
    | exact mvOn_c mvOn_none (mvOn_go rfl)
    | exact mvOn_c mvOn_none mvOn_make
    | exact mvOn_c mvOn_none (mvOn_J rfl)
    | exact mvOn_c (mvOn_J rfl) mvOn_none
    | exact mvOn_c (mvOn_J rfl) (mvOn_go rfl)
    | exact mvOn_c (mvOn_c (mvOn_go rfl) (mvOn_J rfl)) mvOn_none
theorem mvBald_on (pc : Nat) (L st : List Value) (σ : mvSt) : mvOn σ (mvBald pc L st σ) := by
  unfold mvBald
  repeat' split
  all_goals first
    | exact mvOn_none
    | exact mvOn_go rfl
    | exact mvOn_J rfl
    | exact mvOn_make
    | exact mvOn_c (mvOn_go rfl) mvOn_none
    | exact mvOn_c mvOn_none (mvOn_go rfl)
    | exact mvOn_c mvOn_none mvOn_make
    | exact mvOn_c mvOn_none (mvOn_J rfl)
    | exact mvOn_c (mvOn_J rfl) mvOn_none
    | exact mvOn_c (mvOn_J rfl) (mvOn_go rfl)
    | exact mvOn_c (mvOn_c (mvOn_go rfl) (mvOn_J rfl)) mvOn_none
theorem mvLald_on (pc : Nat) (L st : List Value) (σ : mvSt) : mvOn σ (mvLald pc L st σ) := by
  unfold mvLald
  repeat' split
  all_goals first
    | exact mvOn_none
    | exact mvOn_go rfl
    | exact mvOn_J rfl
    | exact mvOn_make
    | exact mvOn_c (mvOn_go rfl) mvOn_none
    | exact mvOn_c mvOn_none (mvOn_go rfl)
    | exact mvOn_c mvOn_none mvOn_make
    | exact mvOn_c mvOn_none (mvOn_J rfl)
    | exact mvOn_c (mvOn_J rfl) mvOn_none
    | exact mvOn_c (mvOn_J rfl) (mvOn_go rfl)
    | exact mvOn_c (mvOn_c (mvOn_go rfl) (mvOn_J rfl)) mvOn_none
theorem mvAald_on (pc : Nat) (L st : List Value) (σ : mvSt) : mvOn σ (mvAald pc L st σ) := by
  unfold mvAald
  repeat' split
  all_goals first
    | exact mvOn_none
    | exact mvOn_go rfl
    | exact mvOn_J rfl
    | exact mvOn_make
    | exact mvOn_c (mvOn_go rfl) mvOn_none
    | exact mvOn_c mvOn_none (mvOn_go rfl)
    | exact mvOn_c mvOn_none mvOn_make
    | exact mvOn_c mvOn_none (mvOn_J rfl)
    | exact mvOn_c (mvOn_J rfl) mvOn_none
    | exact mvOn_c (mvOn_J rfl) (mvOn_go rfl)
    | exact mvOn_c (mvOn_c (mvOn_go rfl) (mvOn_J rfl)) mvOn_none
theorem mvIast_on (pc : Nat) (L st : List Value) (σ : mvSt) : mvOn σ (mvIast pc L st σ) := by
  unfold mvIast
  repeat' split
  all_goals first
    | exact mvOn_none
    | exact mvOn_go rfl
    | exact mvOn_J rfl
    | exact mvOn_make
    | exact mvOn_c (mvOn_go rfl) mvOn_none
    | exact mvOn_c mvOn_none (mvOn_go rfl)
    | exact mvOn_c mvOn_none mvOn_make
    | exact mvOn_c mvOn_none (mvOn_J rfl)
    | exact mvOn_c (mvOn_J rfl) mvOn_none
    | exact mvOn_c (mvOn_J rfl) (mvOn_go rfl)
    | exact mvOn_c (mvOn_c (mvOn_go rfl) (mvOn_J rfl)) mvOn_none
theorem mvBast_on (pc : Nat) (L st : List Value) (σ : mvSt) : mvOn σ (mvBast pc L st σ) := by
  unfold mvBast
  repeat' split
  all_goals first
    | exact mvOn_none
    | exact mvOn_go rfl
    | exact mvOn_J rfl
    | exact mvOn_make
    | exact mvOn_c (mvOn_go rfl) mvOn_none
    | exact mvOn_c mvOn_none (mvOn_go rfl)
    | exact mvOn_c mvOn_none mvOn_make
    | exact mvOn_c mvOn_none (mvOn_J rfl)
    | exact mvOn_c (mvOn_J rfl) mvOn_none
    | exact mvOn_c (mvOn_J rfl) (mvOn_go rfl)
    | exact mvOn_c (mvOn_c (mvOn_go rfl) (mvOn_J rfl)) mvOn_none
theorem mvLast_on (pc : Nat) (L st : List Value) (σ : mvSt) : mvOn σ (mvLast pc L st σ) := by
  unfold mvLast
  repeat' split
  all_goals first
    | exact mvOn_none
    | exact mvOn_go rfl
    | exact mvOn_J rfl
    | exact mvOn_make
    | exact mvOn_c (mvOn_go rfl) mvOn_none
    | exact mvOn_c mvOn_none (mvOn_go rfl)
    | exact mvOn_c mvOn_none mvOn_make
    | exact mvOn_c mvOn_none (mvOn_J rfl)
    | exact mvOn_c (mvOn_J rfl) mvOn_none
    | exact mvOn_c (mvOn_J rfl) (mvOn_go rfl)
    | exact mvOn_c (mvOn_c (mvOn_go rfl) (mvOn_J rfl)) mvOn_none
theorem mvAast_on (pc : Nat) (L st : List Value) (σ : mvSt) : mvOn σ (mvAast pc L st σ) := by
  unfold mvAast
  repeat' split
  all_goals first
    | exact mvOn_none
    | exact mvOn_go rfl
    | exact mvOn_J rfl
    | exact mvOn_make
    | exact mvOn_c (mvOn_go rfl) mvOn_none
    | exact mvOn_c mvOn_none (mvOn_go rfl)
    | exact mvOn_c mvOn_none mvOn_make
    | exact mvOn_c mvOn_none (mvOn_J rfl)
    | exact mvOn_c (mvOn_J rfl) mvOn_none
    | exact mvOn_c (mvOn_J rfl) (mvOn_go rfl)
    | exact mvOn_c (mvOn_c (mvOn_go rfl) (mvOn_J rfl)) mvOn_none
theorem mvAlen_on (pc : Nat) (L st : List Value) (σ : mvSt) : mvOn σ (mvAlen pc L st σ) := by
  unfold mvAlen
  repeat' split
  all_goals first
    | exact mvOn_none
    | exact mvOn_go rfl
    | exact mvOn_J rfl
    | exact mvOn_make
    | exact mvOn_c (mvOn_go rfl) mvOn_none
    | exact mvOn_c mvOn_none (mvOn_go rfl)
    | exact mvOn_c mvOn_none mvOn_make
    | exact mvOn_c mvOn_none (mvOn_J rfl)
    | exact mvOn_c (mvOn_J rfl) mvOn_none
    | exact mvOn_c (mvOn_J rfl) (mvOn_go rfl)
    | exact mvOn_c (mvOn_c (mvOn_go rfl) (mvOn_J rfl)) mvOn_none
theorem mvNewA_on (pc tag : Nat) (L st : List Value) (σ : mvSt) : mvOn σ (mvNewA pc tag L st σ) := by
  unfold mvNewA
  repeat' split
  all_goals first
    | exact mvOn_none
    | exact mvOn_go rfl
    | exact mvOn_J rfl
    | exact mvOn_make
    | exact mvOn_c (mvOn_go rfl) mvOn_none
    | exact mvOn_c mvOn_none (mvOn_go rfl)
    | exact mvOn_c mvOn_none mvOn_make
    | exact mvOn_c mvOn_none (mvOn_J rfl)
    | exact mvOn_c (mvOn_J rfl) mvOn_none
    | exact mvOn_c (mvOn_J rfl) (mvOn_go rfl)
    | exact mvOn_c (mvOn_c (mvOn_go rfl) (mvOn_J rfl)) mvOn_none
theorem mvCopy_on (pc : Nat) (L st : List Value) (σ : mvSt) : mvOn σ (mvCopy pc L st σ) := by
  unfold mvCopy
  repeat' split
  all_goals first
    | exact mvOn_none
    | exact mvOn_go rfl
    | exact mvOn_J rfl
    | exact mvOn_make
    | exact mvOn_c (mvOn_go rfl) mvOn_none
    | exact mvOn_c mvOn_none (mvOn_go rfl)
    | exact mvOn_c mvOn_none mvOn_make
    | exact mvOn_c mvOn_none (mvOn_J rfl)
    | exact mvOn_c (mvOn_J rfl) mvOn_none
    | exact mvOn_c (mvOn_J rfl) (mvOn_go rfl)
    | exact mvOn_c (mvOn_c (mvOn_go rfl) (mvOn_J rfl)) mvOn_none
theorem mvM2_on (f : Int32 → Int32 → Int32) (pc : Nat) (L st : List Value) (σ : mvSt) : mvOn σ (mvM2 f pc L st σ) := by
  unfold mvM2
  repeat' split
  all_goals first
    | exact mvOn_none
    | exact mvOn_go rfl
    | exact mvOn_J rfl
    | exact mvOn_make
    | exact mvOn_c (mvOn_go rfl) mvOn_none
    | exact mvOn_c mvOn_none (mvOn_go rfl)
    | exact mvOn_c mvOn_none mvOn_make
    | exact mvOn_c mvOn_none (mvOn_J rfl)
    | exact mvOn_c (mvOn_J rfl) mvOn_none
    | exact mvOn_c (mvOn_J rfl) (mvOn_go rfl)
    | exact mvOn_c (mvOn_c (mvOn_go rfl) (mvOn_J rfl)) mvOn_none
theorem mvM2l_on (f : Int64 → Int64 → Int64) (pc : Nat) (L st : List Value) (σ : mvSt) : mvOn σ (mvM2l f pc L st σ) := by
  unfold mvM2l
  repeat' split
  all_goals first
    | exact mvOn_none
    | exact mvOn_go rfl
    | exact mvOn_J rfl
    | exact mvOn_make
    | exact mvOn_c (mvOn_go rfl) mvOn_none
    | exact mvOn_c mvOn_none (mvOn_go rfl)
    | exact mvOn_c mvOn_none mvOn_make
    | exact mvOn_c mvOn_none (mvOn_J rfl)
    | exact mvOn_c (mvOn_J rfl) mvOn_none
    | exact mvOn_c (mvOn_J rfl) (mvOn_go rfl)
    | exact mvOn_c (mvOn_c (mvOn_go rfl) (mvOn_J rfl)) mvOn_none
theorem mvIinc_on (pc i : Nat) (n : Int) (L st : List Value) (σ : mvSt) : mvOn σ (mvIinc pc i n L st σ) := by
  unfold mvIinc
  repeat' split
  all_goals first
    | exact mvOn_none
    | exact mvOn_go rfl
    | exact mvOn_J rfl
    | exact mvOn_make
    | exact mvOn_c (mvOn_go rfl) mvOn_none
    | exact mvOn_c mvOn_none (mvOn_go rfl)
    | exact mvOn_c mvOn_none mvOn_make
    | exact mvOn_c mvOn_none (mvOn_J rfl)
    | exact mvOn_c (mvOn_J rfl) mvOn_none
    | exact mvOn_c (mvOn_J rfl) (mvOn_go rfl)
    | exact mvOn_c (mvOn_c (mvOn_go rfl) (mvOn_J rfl)) mvOn_none
theorem mvI2L_on (pc : Nat) (L st : List Value) (σ : mvSt) : mvOn σ (mvI2L pc L st σ) := by
  unfold mvI2L
  repeat' split
  all_goals first
    | exact mvOn_none
    | exact mvOn_go rfl
    | exact mvOn_J rfl
    | exact mvOn_make
    | exact mvOn_c (mvOn_go rfl) mvOn_none
    | exact mvOn_c mvOn_none (mvOn_go rfl)
    | exact mvOn_c mvOn_none mvOn_make
    | exact mvOn_c mvOn_none (mvOn_J rfl)
    | exact mvOn_c (mvOn_J rfl) mvOn_none
    | exact mvOn_c (mvOn_J rfl) (mvOn_go rfl)
    | exact mvOn_c (mvOn_c (mvOn_go rfl) (mvOn_J rfl)) mvOn_none
theorem mvL2I_on (pc : Nat) (L st : List Value) (σ : mvSt) : mvOn σ (mvL2I pc L st σ) := by
  unfold mvL2I
  repeat' split
  all_goals first
    | exact mvOn_none
    | exact mvOn_go rfl
    | exact mvOn_J rfl
    | exact mvOn_make
    | exact mvOn_c (mvOn_go rfl) mvOn_none
    | exact mvOn_c mvOn_none (mvOn_go rfl)
    | exact mvOn_c mvOn_none mvOn_make
    | exact mvOn_c mvOn_none (mvOn_J rfl)
    | exact mvOn_c (mvOn_J rfl) mvOn_none
    | exact mvOn_c (mvOn_J rfl) (mvOn_go rfl)
    | exact mvOn_c (mvOn_c (mvOn_go rfl) (mvOn_J rfl)) mvOn_none
theorem mvLneg_on (pc : Nat) (L st : List Value) (σ : mvSt) : mvOn σ (mvLneg pc L st σ) := by
  unfold mvLneg
  repeat' split
  all_goals first
    | exact mvOn_none
    | exact mvOn_go rfl
    | exact mvOn_J rfl
    | exact mvOn_make
    | exact mvOn_c (mvOn_go rfl) mvOn_none
    | exact mvOn_c mvOn_none (mvOn_go rfl)
    | exact mvOn_c mvOn_none mvOn_make
    | exact mvOn_c mvOn_none (mvOn_J rfl)
    | exact mvOn_c (mvOn_J rfl) mvOn_none
    | exact mvOn_c (mvOn_J rfl) (mvOn_go rfl)
    | exact mvOn_c (mvOn_c (mvOn_go rfl) (mvOn_J rfl)) mvOn_none
theorem mvLcmp_on (pc : Nat) (L st : List Value) (σ : mvSt) : mvOn σ (mvLcmp pc L st σ) := by
  unfold mvLcmp
  repeat' split
  all_goals first
    | exact mvOn_none
    | exact mvOn_go rfl
    | exact mvOn_J rfl
    | exact mvOn_make
    | exact mvOn_c (mvOn_go rfl) mvOn_none
    | exact mvOn_c mvOn_none (mvOn_go rfl)
    | exact mvOn_c mvOn_none mvOn_make
    | exact mvOn_c mvOn_none (mvOn_J rfl)
    | exact mvOn_c (mvOn_J rfl) mvOn_none
    | exact mvOn_c (mvOn_J rfl) (mvOn_go rfl)
    | exact mvOn_c (mvOn_c (mvOn_go rfl) (mvOn_J rfl)) mvOn_none
theorem mvDup_on (pc : Nat) (L st : List Value) (σ : mvSt) : mvOn σ (mvDup pc L st σ) := by
  unfold mvDup
  repeat' split
  all_goals first
    | exact mvOn_none
    | exact mvOn_go rfl
    | exact mvOn_J rfl
    | exact mvOn_make
    | exact mvOn_c (mvOn_go rfl) mvOn_none
    | exact mvOn_c mvOn_none (mvOn_go rfl)
    | exact mvOn_c mvOn_none mvOn_make
    | exact mvOn_c mvOn_none (mvOn_J rfl)
    | exact mvOn_c (mvOn_J rfl) mvOn_none
    | exact mvOn_c (mvOn_J rfl) (mvOn_go rfl)
    | exact mvOn_c (mvOn_c (mvOn_go rfl) (mvOn_J rfl)) mvOn_none
theorem mvDup2_on (pc : Nat) (L st : List Value) (σ : mvSt) : mvOn σ (mvDup2 pc L st σ) := by
  unfold mvDup2
  repeat' split
  all_goals first
    | exact mvOn_none
    | exact mvOn_go rfl
    | exact mvOn_J rfl
    | exact mvOn_make
    | exact mvOn_c (mvOn_go rfl) mvOn_none
    | exact mvOn_c mvOn_none (mvOn_go rfl)
    | exact mvOn_c mvOn_none mvOn_make
    | exact mvOn_c mvOn_none (mvOn_J rfl)
    | exact mvOn_c (mvOn_J rfl) mvOn_none
    | exact mvOn_c (mvOn_J rfl) (mvOn_go rfl)
    | exact mvOn_c (mvOn_c (mvOn_go rfl) (mvOn_J rfl)) mvOn_none
theorem mvPop_on (pc : Nat) (L st : List Value) (σ : mvSt) : mvOn σ (mvPop pc L st σ) := by
  unfold mvPop
  repeat' split
  all_goals first
    | exact mvOn_none
    | exact mvOn_go rfl
    | exact mvOn_J rfl
    | exact mvOn_make
    | exact mvOn_c (mvOn_go rfl) mvOn_none
    | exact mvOn_c mvOn_none (mvOn_go rfl)
    | exact mvOn_c mvOn_none mvOn_make
    | exact mvOn_c mvOn_none (mvOn_J rfl)
    | exact mvOn_c (mvOn_J rfl) mvOn_none
    | exact mvOn_c (mvOn_J rfl) (mvOn_go rfl)
    | exact mvOn_c (mvOn_c (mvOn_go rfl) (mvOn_J rfl)) mvOn_none
theorem mvIf1_on (pc : Nat) (c : ClassFile.Cond) (off : Int) (L st : List Value) (σ : mvSt) : mvOn σ (mvIf1 pc c off L st σ) := by
  unfold mvIf1
  repeat' split
  all_goals first
    | exact mvOn_none
    | exact mvOn_go rfl
    | exact mvOn_J rfl
    | exact mvOn_make
    | exact mvOn_c (mvOn_go rfl) mvOn_none
    | exact mvOn_c mvOn_none (mvOn_go rfl)
    | exact mvOn_c mvOn_none mvOn_make
    | exact mvOn_c mvOn_none (mvOn_J rfl)
    | exact mvOn_c (mvOn_J rfl) mvOn_none
    | exact mvOn_c (mvOn_J rfl) (mvOn_go rfl)
    | exact mvOn_c (mvOn_c (mvOn_go rfl) (mvOn_J rfl)) mvOn_none
theorem mvIf2_on (pc : Nat) (c : ClassFile.Cond) (off : Int) (L st : List Value) (σ : mvSt) : mvOn σ (mvIf2 pc c off L st σ) := by
  unfold mvIf2
  repeat' split
  all_goals first
    | exact mvOn_none
    | exact mvOn_go rfl
    | exact mvOn_J rfl
    | exact mvOn_make
    | exact mvOn_c (mvOn_go rfl) mvOn_none
    | exact mvOn_c mvOn_none (mvOn_go rfl)
    | exact mvOn_c mvOn_none mvOn_make
    | exact mvOn_c mvOn_none (mvOn_J rfl)
    | exact mvOn_c (mvOn_J rfl) mvOn_none
    | exact mvOn_c (mvOn_J rfl) (mvOn_go rfl)
    | exact mvOn_c (mvOn_c (mvOn_go rfl) (mvOn_J rfl)) mvOn_none
theorem mvIfN_on (pc : Nat) (off : Int) (L st : List Value) (σ : mvSt) : mvOn σ (mvIfN pc off L st σ) := by
  unfold mvIfN
  repeat' split
  all_goals first
    | exact mvOn_none
    | exact mvOn_go rfl
    | exact mvOn_J rfl
    | exact mvOn_make
    | exact mvOn_c (mvOn_go rfl) mvOn_none
    | exact mvOn_c mvOn_none (mvOn_go rfl)
    | exact mvOn_c mvOn_none mvOn_make
    | exact mvOn_c mvOn_none (mvOn_J rfl)
    | exact mvOn_c (mvOn_J rfl) mvOn_none
    | exact mvOn_c (mvOn_J rfl) (mvOn_go rfl)
    | exact mvOn_c (mvOn_c (mvOn_go rfl) (mvOn_J rfl)) mvOn_none
theorem mvIfNN_on (pc : Nat) (off : Int) (L st : List Value) (σ : mvSt) : mvOn σ (mvIfNN pc off L st σ) := by
  unfold mvIfNN
  repeat' split
  all_goals first
    | exact mvOn_none
    | exact mvOn_go rfl
    | exact mvOn_J rfl
    | exact mvOn_make
    | exact mvOn_c (mvOn_go rfl) mvOn_none
    | exact mvOn_c mvOn_none (mvOn_go rfl)
    | exact mvOn_c mvOn_none mvOn_make
    | exact mvOn_c mvOn_none (mvOn_J rfl)
    | exact mvOn_c (mvOn_J rfl) mvOn_none
    | exact mvOn_c (mvOn_J rfl) (mvOn_go rfl)
    | exact mvOn_c (mvOn_c (mvOn_go rfl) (mvOn_J rfl)) mvOn_none
theorem mvAcmp_on (pc : Nat) (off : Int) (L st : List Value) (σ : mvSt) : mvOn σ (mvAcmp pc off L st σ) := by
  unfold mvAcmp
  repeat' split
  all_goals first
    | exact mvOn_none
    | exact mvOn_go rfl
    | exact mvOn_J rfl
    | exact mvOn_make
    | exact mvOn_c (mvOn_go rfl) mvOn_none
    | exact mvOn_c mvOn_none (mvOn_go rfl)
    | exact mvOn_c mvOn_none mvOn_make
    | exact mvOn_c mvOn_none (mvOn_J rfl)
    | exact mvOn_c (mvOn_J rfl) mvOn_none
    | exact mvOn_c (mvOn_J rfl) (mvOn_go rfl)
    | exact mvOn_c (mvOn_c (mvOn_go rfl) (mvOn_J rfl)) mvOn_none
theorem mvTab_on (pc : Nat) (d lo hi : Int) (offs : Array Int) (L st : List Value) (σ : mvSt) : mvOn σ (mvTab pc d lo hi offs L st σ) := by
  unfold mvTab
  repeat' split
  all_goals first
    | exact mvOn_none
    | exact mvOn_go rfl
    | exact mvOn_J rfl
    | exact mvOn_make
    | exact mvOn_c (mvOn_go rfl) mvOn_none
    | exact mvOn_c mvOn_none (mvOn_go rfl)
    | exact mvOn_c mvOn_none mvOn_make
    | exact mvOn_c mvOn_none (mvOn_J rfl)
    | exact mvOn_c (mvOn_J rfl) mvOn_none
    | exact mvOn_c (mvOn_J rfl) (mvOn_go rfl)
    | exact mvOn_c (mvOn_c (mvOn_go rfl) (mvOn_J rfl)) mvOn_none
theorem mvLook_on (pc : Nat) (d : Int) (ps : Array (Int × Int)) (L st : List Value) (σ : mvSt) : mvOn σ (mvLook pc d ps L st σ) := by
  unfold mvLook
  repeat' split
  all_goals first
    | exact mvOn_none
    | exact mvOn_go rfl
    | exact mvOn_J rfl
    | exact mvOn_make
    | exact mvOn_c (mvOn_go rfl) mvOn_none
    | exact mvOn_c mvOn_none (mvOn_go rfl)
    | exact mvOn_c mvOn_none mvOn_make
    | exact mvOn_c mvOn_none (mvOn_J rfl)
    | exact mvOn_c (mvOn_J rfl) mvOn_none
    | exact mvOn_c (mvOn_J rfl) (mvOn_go rfl)
    | exact mvOn_c (mvOn_c (mvOn_go rfl) (mvOn_J rfl)) mvOn_none
theorem mvObj_on (pc : Nat) (L st : List Value) (σ : mvSt) : mvOn σ (mvObj pc L st σ) := by
  unfold mvObj
  repeat' split
  all_goals first
    | exact mvOn_none
    | exact mvOn_go rfl
    | exact mvOn_J rfl
    | exact mvOn_make
    | exact mvOn_c (mvOn_go rfl) mvOn_none
    | exact mvOn_c mvOn_none (mvOn_go rfl)
    | exact mvOn_c mvOn_none mvOn_make
    | exact mvOn_c mvOn_none (mvOn_J rfl)
    | exact mvOn_c (mvOn_J rfl) mvOn_none
    | exact mvOn_c (mvOn_J rfl) (mvOn_go rfl)
    | exact mvOn_c (mvOn_c (mvOn_go rfl) (mvOn_J rfl)) mvOn_none
