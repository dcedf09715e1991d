theorem mv_ok : ∀ k, k < mvN → ∀ p, mvOk k p = true := sorry
theorem mv_okT : ∀ k, k < mvN → 0 < k → mvOkT k = true := sorry
