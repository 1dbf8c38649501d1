/-! THE CLASS: what a run has worked out -/
section X6W
variable {s : ST}
theorem x_X6_numberOf {p : Int} {Q : ST → Int → Prop} (hQ : ∀ v, Q s v) : C_X6_numberOf s p Q := by
  have k15 : K_X6_numberOf_15 s p Q := s_X6_numberOf_15 fun _ _ => ⟨P_one _ _, hQ _⟩
  have k36 : ∀ (n : Nat) (a3 a4 a5 : Int), 4000 - a5 ≤ (n : Int) → 0 ≤ a5 → 0 ≤ a3 ∧ a3 ≤ a5 → K_X6_numberOf_36 s a3 a4 a5 Q := by
    intro n
    induction n with
    | zero =>
      intro a3 a4 a5 hn h5 h3
      refine s_X6_numberOf_36 ?_
      (repeat' (with_reducible first | refine ⟨?_, ?_⟩ | intro _))
      all_goals first | omega | exact hQ _
    | succ n ih =>
      intro a3 a4 a5 hn h5 h3
      refine s_X6_numberOf_36 ?_
      (repeat' (with_reducible first | refine ⟨?_, ?_⟩ | intro _))
      all_goals first | omega | exact hQ _ | exact ih _ _ _ (by omega) (by omega) (by omega)
  refine s_X6_numberOf ?_
  (repeat' (with_reducible first | refine ⟨?_, ?_⟩ | intro _))
  all_goals first | omega | exact hQ _ | exact k15 | exact k36 4000 _ _ 0 (by omega) (by omega) (by omega)
end X6W
