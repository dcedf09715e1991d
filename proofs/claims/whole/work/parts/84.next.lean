/-! THE NEXT TOKEN: the whole -/
theorem sg_cs (c : Nat) : sgC c = 47 ∨ (c = 60 ∧ sgC c = 32) ∨ (c = 62 ∧ sgC c = 33) ∨ (c = 61 ∧ sgC c = 34) ∨ (c = 35 ∧ sgC c = 35) ∨ (c = 43 ∧ sgC c = 36) ∨ (c = 45 ∧ sgC c = 37) ∨ (c = 42 ∧ sgC c = 38) ∨ (c = 47 ∧ sgC c = 39) ∨ (c = 40 ∧ sgC c = 40) ∨ (c = 41 ∧ sgC c = 41) ∨ (c = 59 ∧ sgC c = 42) := by
  by_cases e60 : c = 60
  · subst e60; simp [sgC]
  by_cases e62 : c = 62
  · subst e62; simp [sgC]
  by_cases e61 : c = 61
  · subst e61; simp [sgC]
  by_cases e35 : c = 35
  · subst e35; simp [sgC]
  by_cases e43 : c = 43
  · subst e43; simp [sgC]
  by_cases e45 : c = 45
  · subst e45; simp [sgC]
  by_cases e42 : c = 42
  · subst e42; simp [sgC]
  by_cases e47 : c = 47
  · subst e47; simp [sgC]
  by_cases e40 : c = 40
  · subst e40; simp [sgC]
  by_cases e41 : c = 41
  · subst e41; simp [sgC]
  by_cases e59 : c = 59
  · subst e59; simp [sgC]
  · left
    simp [sgC, e60, e62, e61, e35, e43, e45, e42, e47, e40, e41, e59]
theorem TR_sg (c τ : Nat) (e : τ = if sgC c ≠ 47 ∨ c = 58 then c else 3) : TR (sgC c) τ := by
  unfold TR
  rcases sg_cs c with q | ⟨rfl, q⟩ | ⟨rfl, q⟩ | ⟨rfl, q⟩ | ⟨rfl, q⟩ | ⟨rfl, q⟩ | ⟨rfl, q⟩ | ⟨rfl, q⟩ | ⟨rfl, q⟩ | ⟨rfl, q⟩ | ⟨rfl, q⟩ | ⟨rfl, q⟩
  · rw [q] at e ⊢
    by_cases d : c = 58
    · subst d; simp at e; simp [e]
    · simp [d] at e; simp [e]
  · simp [sgC] at e; subst e; simp [sgC]
  · simp [sgC] at e; subst e; simp [sgC]
  · simp [sgC] at e; subst e; simp [sgC]
  · simp [sgC] at e; subst e; simp [sgC]
  · simp [sgC] at e; subst e; simp [sgC]
  · simp [sgC] at e; subst e; simp [sgC]
  · simp [sgC] at e; subst e; simp [sgC]
  · simp [sgC] at e; subst e; simp [sgC]
  · simp [sgC] at e; subst e; simp [sgC]
  · simp [sgC] at e; subst e; simp [sgC]
  · simp [sgC] at e; subst e; simp [sgC]
