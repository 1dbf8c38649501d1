/-! THE CLASS: a run's small steps -/
section X6S
variable {s0 s : ST}
theorem x_X6_enter {p q : Int} {Q : ST → Prop} (k : KX s0 s) (hQ : ∀ s', KX s0 s' → Q s') : C_X6_enter s p q Q := by
  refine s_X6_enter fun hra => ?_
  have h80 := hra 80 2
  (repeat' (with_reducible first | refine ⟨?_, ?_⟩ | intro _))
  all_goals first | omega | exact hQ _ k
theorem x_X6_leave {p : Int} {Q : ST → Prop} (k : KX s0 s) (hQ : ∀ s', KX s0 s' → Q s') : C_X6_leave s p Q := by
  refine s_X6_leave ?_
  (repeat' (with_reducible first | refine ⟨?_, ?_⟩ | intro _))
  exact hQ _ k
theorem x_X6_enterOrLeave {p q u : Int} {Q : ST → Prop} (k : KX s0 s) (hQ : ∀ s', KX s0 s' → Q s') : C_X6_enterOrLeave s p q u Q := by
  refine s_X6_enterOrLeave ?_
  (repeat' (with_reducible first | refine ⟨?_, ?_⟩ | intro _))
  · exact x_X6_leave k hQ
  · exact x_X6_enter k hQ
theorem x_X6_cell {p q u : Int} {Q : ST → Int → Prop} (k : KX s0 s) (hQ : ∀ s' v, KX s0 s' → Q s' v) : C_X6_cell s p q u Q := by
  refine s_X6_cell ?_
  (repeat' (with_reducible first | refine ⟨?_, ?_⟩ | intro _))
  all_goals first | omega | exact hQ _ _ k | exact hQ _ _ (f _ _ _ _ (by decide) (f _ _ _ _ (by decide) (f _ _ _ _ (by decide) (f _ _ _ _ (by decide) k))))
theorem x_X6_leaveIf {p q : Int} {Q : ST → Prop} (k : KX s0 s) (hQ : ∀ s', KX s0 s' → Q s') : C_X6_leaveIf s p q Q := by
  refine s_X6_leaveIf ?_
  (repeat' (with_reducible first | refine ⟨?_, ?_⟩ | intro _))
  · exact hQ _ (KX_put k (by omega) (fun e => by omega) (fun e => by omega))
  · exact x_X6_leave k hQ
end X6S
