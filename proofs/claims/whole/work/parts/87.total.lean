/-! READING A SUM ENDS: the proof -/
theorem pd_end (law : Nat) (cd nm : Nat → Nat) (n : Nat) (hn : ∀ i, n ≤ i → cd i = 46) (m : Nat) : ∀ (g : Nat) (f : E1 → Int) (o i : Nat), g ≤ 9 → i ≤ n → 10 * (n - i) + rk g < m → rsOK n i (decide (g = 2 ∨ g = 4 ∨ g = 6 ∨ g = 8)) (pd law cd nm m g f o i) := by
  have lt : ∀ i, i ≤ n → cd i ≠ 46 → i < n := fun i h1 h2 => by
    apply Nat.lt_of_not_le
    intro q
    exact h2 (hn i q)
  have k0 : rk 0 = 1 := rfl
  have k1 : rk 1 = 2 := rfl
  have k2 : rk 2 = 1 := rfl
  have k3 : rk 3 = 3 := rfl
  have k4 : rk 4 = 1 := rfl
  have k5 : rk 5 = 6 := rfl
  have k6 : rk 6 = 1 := rfl
  have k7 : rk 7 = 5 := rfl
  have k8 : rk 8 = 1 := rfl
  have k9 : rk 9 = 4 := rfl
  induction m with
  | zero => intro g f o i _ _ h; omega
  | succ m ih =>
    intro g f o i hg hi hm
    match g, hg with
    | 1, _ =>
      rw [pd]
      refine rsOK_B (ih 0 _ o i (by omega) hi (by omega)) (Nat.le_refl _) (fun f j a b c => ?_)
      have := c rfl
      exact rsOK_w (ih 2 f o j (by omega) b (by omega)) a (fun _ => Or.inl this)
    | 3, _ =>
      rw [pd]
      refine rsOK_B (ih 1 _ o i (by omega) hi (by omega)) (Nat.le_refl _) (fun f j a b c => ?_)
      have := c rfl
      exact rsOK_w (ih 4 f o j (by omega) b (by omega)) a (fun _ => Or.inl this)
    | 5, _ =>
      rw [pd]
      refine rsOK_B (ih 7 _ o i (by omega) hi (by omega)) (Nat.le_refl _) (fun f j a b c => ?_)
      have := c rfl
      exact rsOK_w (ih 6 f o j (by omega) b (by omega)) a (fun _ => Or.inl this)
    | 7, _ =>
      rw [pd]
      refine rsOK_B (ih 9 _ o i (by omega) hi (by omega)) (Nat.le_refl _) (fun f j a b c => ?_)
      have := c rfl
      exact rsOK_w (ih 8 f o j (by omega) b (by omega)) a (fun _ => Or.inl this)
    | 2, _ =>
      rw [pd]
      split
      · rename_i c0
        have li := lt i hi (by omega)
        refine rsOK_B (ih 0 _ o (i + 1) (by omega) (by omega) (by omega)) (by omega) (fun g j a b c => ?_)
        exact rsOK_w (ih 2 (bn (cd i) f g) o j (by omega) b (by omega)) (by omega) (fun _ => Or.inl (by omega))
      · exact rsOK_ok (Nat.le_refl _) hi (fun x => absurd x (by decide))
    | 4, _ =>
      rw [pd]
      split
      · rename_i c0
        have li := lt i hi (by omega)
        refine rsOK_B (ih 1 _ o (i + 1) (by omega) (by omega) (by omega)) (by omega) (fun g j a b c => ?_)
        exact rsOK_w (ih 4 (bn (cd i) f g) o j (by omega) b (by omega)) (by omega) (fun _ => Or.inl (by omega))
      · exact rsOK_ok (Nat.le_refl _) hi (fun x => absurd x (by decide))
    | 6, _ =>
      rw [pd]
      split
      · rename_i c0
        have li := lt i hi (by omega)
        refine rsOK_B (ih 7 _ o (i + 1) (by omega) (by omega) (by omega)) (by omega) (fun g j a b c => ?_)
        exact rsOK_w (ih 6 (bn 28 f g) o j (by omega) b (by omega)) (by omega) (fun _ => Or.inl (by omega))
      · exact rsOK_ok (Nat.le_refl _) hi (fun x => absurd x (by decide))
    | 8, _ =>
      rw [pd]
      split
      · rename_i c0
        have li := lt i hi (by omega)
        refine rsOK_B (ih 9 _ o (i + 1) (by omega) (by omega) (by omega)) (by omega) (fun g j a b c => ?_)
        exact rsOK_w (ih 8 (bn 29 f g) o j (by omega) b (by omega)) (by omega) (fun _ => Or.inl (by omega))
      · exact rsOK_ok (Nat.le_refl _) hi (fun x => absurd x (by decide))
    | 9, _ =>
      rw [pd]
      · split
        · rename_i c0
          have li := lt i hi (by omega)
          split
          · exact rsOK_bad (Nat.le_refl _) hi (by omega)
          · refine rsOK_B (ih 9 _ (o + 1) (i + 1) (by omega) (by omega) (by omega)) (by omega) (fun g j a b c => ?_)
            exact rsOK_ok (by omega) b (fun _ => by omega)
        · refine rsOK_B (ih 3 _ o i (by omega) hi (by omega)) (Nat.le_refl _) (fun f j a b c => ?_)
          have cj := c rfl
          split
          · rename_i c1
            have c2 := of_decide_eq_true c1
            have lj := lt j b (by omega)
            refine rsOK_B (ih 3 _ o (j + 1) (by omega) (by omega) (by omega)) (by omega) (fun g j2 a2 b2 c2 => ?_)
            exact rsOK_ok (by omega) b2 (fun _ => by omega)
          · exact rsOK_bad a b (by omega)
      all_goals (intros; omega)
    | 0, _ =>
      rw [pd]
      by_cases z0 : cd i = 45
      · rw [if_pos z0]
        have li := lt i hi (by omega)
        split
        · exact rsOK_bad (Nat.le_refl _) hi (by omega)
        · exact rsOK_ok (by omega) (by omega) (fun _ => by omega)
      · rw [if_neg z0]
        by_cases z2 : cd i < 11
        · rw [if_pos z2]
          have li := lt i hi (by omega)
          split
          · exact rsOK_ok (by omega) (by omega) (fun _ => by omega)
          · exact rsOK_bad (Nat.le_refl _) hi (by omega)
        · rw [if_neg z2]
          by_cases z4 : cd i = 40 ∨ cd i = 37 ∨ cd i = 21 ∨ cd i = 23 ∨ cd i = 24
          · rw [if_pos z4]
            have li := lt i hi (by omega)
            have I0 := fun f => ih 0 f (o + 1) (i + 1) (by omega) (by omega) (by omega)
            have I3 := fun f => ih 3 f (o + 1) (i + 1) (by omega) (by omega) (by omega)
            have I5 := fun f => ih 5 f (o + 1) (i + 1) (by omega) (by omega) (by omega)
            have J0 := fun f j (a : i + 1 ≤ j) (b : j < n) => ih 0 f (o + 1) (j + 1) (by omega) (by omega) (by omega)
            have J3 := fun f j (a : i + 1 ≤ j) (b : j < n) => ih 3 f (o + 1) (j + 1) (by omega) (by omega) (by omega)
            by_cases z5 : cd i = 23 ∧ law = 0
            · rw [if_pos z5]
              exact rsOK_bad (Nat.le_refl _) hi (by omega)
            · rw [if_neg z5]
              by_cases z6 : 8 ≤ o
              · rw [if_pos z6]
                exact rsOK_bad (Nat.le_refl _) hi (by omega)
              · rw [if_neg z6]
                by_cases z7 : cd i = 40
                · rw [if_pos z7]
                  refine rsOK_B (I3 _) (by omega) (fun f j a b c => ?_)
                  split
                  · have lj := lt j b (by omega)
                    exact rsOK_ok (by omega) (by omega) (fun _ => by omega)
                  · exact rsOK_bad (by omega) b (by omega)
                · rw [if_neg z7]
                  by_cases z9 : cd i = 37
                  · rw [if_pos z9]
                    refine rsOK_B (I0 _) (by omega) (fun f j a b c => ?_)
                    exact rsOK_ok (by omega) b (fun _ => by omega)
                  · rw [if_neg z9]
                    by_cases z10 : cd i = 21
                    · rw [if_pos z10]
                      refine rsOK_B (I0 _) (by omega) (fun f j a b c => ?_)
                      split
                      · have lj := lt j b (by omega)
                        refine rsOK_B (J0 _ j a lj) (by omega) (fun g j2 a2 b2 c2 => ?_)
                        exact rsOK_ok (by omega) b2 (fun _ => by omega)
                      · exact rsOK_bad (by omega) b (by omega)
                    · rw [if_neg z10]
                      by_cases z12 : cd i = 23
                      · rw [if_pos z12]
                        refine rsOK_B (I0 _) (by omega) (fun f j a b c => ?_)
                        exact rsOK_ok (by omega) b (fun _ => by omega)
                      · rw [if_neg z12]
                        refine rsOK_B (I5 _) (by omega) (fun q j a b c => ?_)
                        split
                        · have lj := lt j b (by omega)
                          refine rsOK_B (J3 _ j a lj) (by omega) (fun f j2 a2 b2 c2 => ?_)
                          split
                          · have lj2 := lt j2 b2 (by omega)
                            refine rsOK_B (J3 _ j2 (by omega) lj2) (by omega) (fun g j3 a3 b3 c3 => ?_)
                            split
                            · have lj3 := lt j3 b3 (by omega)
                              exact rsOK_ok (by omega) (by omega) (fun _ => by omega)
                            · exact rsOK_bad (by omega) b3 (by omega)
                          · exact rsOK_bad (by omega) b2 (by omega)
                        · exact rsOK_bad (by omega) b (by omega)
          · rw [if_neg z4]
            exact rsOK_bad (Nat.le_refl _) hi (by omega)
