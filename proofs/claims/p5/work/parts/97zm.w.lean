/-! THE CLASS: a run's steps -/
section X6T
variable {s0 s : ST}
theorem P_head (s : ST) (p : Int) : P_X6_headOf s p := fun _ => by omega
theorem P_one (s : ST) (p : Int) : P_X6_oneOf s p := fun _ => by omega
theorem P_two (s : ST) (p : Int) : P_X6_twoOf s p := fun _ => by omega
theorem P_parent (s : ST) (t : Nat) (p : Int) : P_X9_parentOf t s p := fun _ => by omega
theorem x_X6_stepIf {p q u : Int} {Q : ST → Prop} (k : KX s0 s) (hQ : ∀ s', KX s0 s' → Q s') : C_X6_stepIf s p q u Q := by
  have k81 : ∀ t, K_X6_stepIf_81 s q p t Q := fun t => s_X6_stepIf_81 fun _ _ _ _ => ⟨P_kid _ _ _ _, x_X6_enter k hQ⟩
  refine s_X6_stepIf fun _ _ _ _ => ⟨fun _ => ⟨fun _ => ⟨P_head _ _, fun _ => ⟨P_one _ _, fun _ => k81 _, fun _ => k81 _⟩, fun _ => hQ _ k⟩, fun _ => x_X6_leave k hQ⟩, fun _ => ⟨P_kid _ _ _ _, x_X6_enter k hQ⟩⟩
theorem x_X6_enterPart {p q u w : Int} {Q : ST → Prop} (hp : 0 ≤ p ∧ p < 151) (k : KX s0 s) (hQ : ∀ s', KX s0 s' → Q s') : C_X6_enterPart s p q u w Q := by
  have k16 : ∀ s1, KX s0 s1 → K_X6_enterPart_16 s1 q u w Q := fun s1 k1 => s_X6_enterPart_16 fun _ _ _ _ => ⟨P_kid _ _ _ _, x_X6_enter k1 hQ⟩
  refine s_X6_enterPart ?_
  (repeat' (with_reducible first | refine ⟨?_, ?_⟩ | intro _))
  all_goals first | omega | exact k16 _ k
theorem x_X6_stepCall {p q u w : Int} {Q : ST → Prop} (hp : 0 ≤ p ∧ p < 151) (k : KX s0 s) (hQ : ∀ s', KX s0 s' → Q s') : C_X6_stepCall s p q u w Q := by
  refine s_X6_stepCall fun _ _ _ _ _ => ⟨fun _ => ⟨fun _ => ⟨hp, P_head _ _, fun _ => ⟨P_one _ _, P_kid _ _ _ _, P_two _ _, x_X6_cell k fun s2 v k2 => x_X6_enter k2 hQ⟩, fun _ => hQ _ k⟩, fun _ => x_X6_leave k hQ⟩, fun _ => x_X6_enterPart hp k hQ⟩
theorem x_X6_leaveRow {p q : Int} {Q : ST → Prop} (k : KX s0 s) (hQ : ∀ s', KX s0 s' → Q s') : C_X6_leaveRow s p q Q := by
  have k42 : ∀ t, K_X6_leaveRow_42 s q t Q := fun t => by
    refine s_X6_leaveRow_42 ?_
    (repeat' (with_reducible first | refine ⟨?_, ?_⟩ | intro _))
    exact x_X6_leaveIf k hQ
  have k27 : K_X6_leaveRow_27 s p q Q := s_X6_leaveRow_27 fun _ _ _ => ⟨P_head _ _, fun _ => k42 _, fun _ => k42 _⟩
  refine s_X6_leaveRow fun _ _ _ => ⟨P_head _ _, fun _ => k27, fun _ => ⟨P_two _ _, fun _ => k27, fun _ => hQ _ k⟩⟩
end X6T
