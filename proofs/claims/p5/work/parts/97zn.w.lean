/-! THE CLASS: a run's steps, the rest -/
section X6U
variable {s0 s : ST}
theorem P_areNumbers (s : ST) (p q : Int) : P_X6_areNumbers s p q := ⟨P_head _ _, fun _ => P_head _ _⟩
theorem x_X6_finish {p q u : Int} {Q : ST → Prop} (k : KX s0 s) (hQ : ∀ s', KX s0 s' → Q s') : C_X6_finish s p q u Q := by
  have cl : ∀ {a b c : Int}, C_X6_cell s a b c (fun s4 v4 => C_X6_leave s4 v4 (fun s5 => Q s5)) := x_X6_cell k fun s2 v k2 => x_X6_leave k2 hQ
  have ci : ∀ {a b c t : Int}, C_X6_cell s a b c (fun s4 v4 => C_X6_leaveIf s4 t v4 (fun s5 => Q s5)) := x_X6_cell k fun s2 v k2 => x_X6_leaveIf k2 hQ
  have k319 : ∀ t1 t3 t4, K_X6_finish_319 s t1 t3 t4 Q := fun t1 t3 t4 => s_X6_finish_319 fun _ _ _ _ => ci
  have k292 : K_X6_finish_292 s q u Q := s_X6_finish_292 fun _ _ _ => ⟨P_areNumbers _ _ _, P_one _ _, P_one _ _, fun _ => k319 _ _ _, fun _ => k319 _ _ _⟩
  have k171 : ∀ t, K_X6_finish_171 s q t Q := fun t => s_X6_finish_171 fun _ _ _ => ⟨P_one _ _, x_X6_leaveIf k hQ⟩
  have k197 : ∀ t, K_X6_finish_197 s q t Q := fun t => s_X6_finish_197 fun _ _ _ => ⟨P_two _ _, x_X6_leaveIf k hQ⟩
  have k223 : ∀ t, K_X6_finish_223 s q u t Q := fun t => s_X6_finish_223 fun _ _ _ _ => ci
  have hs : ¬ (0 ≤ p ∧ p < 40) → F_X9_sortOf 2 s p = -1 := fun h => if_neg (by omega)
  refine s_X6_finish ?_
  (repeat' (with_reducible first | refine ⟨?_, ?_⟩ | intro _))
  all_goals first | omega | (by_cases hp : 0 ≤ p ∧ p < 40; · omega; · have := hs hp; omega) | exact cl | exact ci | exact k292 | exact k171 _ | exact k197 _ | exact k223 _ | exact x_X6_leaveRow k hQ
theorem x_X6_stepParts {p q u w : Int} {Q : ST → Prop} (hp : 0 ≤ p ∧ p < 151) (k : KX s0 s) (hQ : ∀ s', KX s0 s' → Q s') : C_X6_stepParts s p q u w Q := by
  have k50 : ∀ t, K_X6_stepParts_50 s q t Q := fun t => s_X6_stepParts_50 fun _ _ _ => x_X6_finish k hQ
  refine s_X6_stepParts fun _ _ _ _ _ => ⟨P_arity _ _ _, fun _ => ⟨fun _ => k50 _, fun _ => ⟨hp, k50 _⟩⟩, fun _ => x_X6_enterPart hp k hQ⟩
theorem x_X6_stepName {p q u : Int} {Q : ST → Prop} (k : KX s0 s) (hQ : ∀ s', KX s0 s' → Q s') : C_X6_stepName s p q u Q := by
  have k101 : ∀ a5, K_X6_stepName_101 s p u a5 Q := fun a5 => s_X6_stepName_101 fun _ _ _ _ => ⟨P_meantBy _ _ _, fun _ => x_X6_enterOrLeave k hQ, fun _ => ⟨P_one _ _, x_X6_leave k hQ⟩⟩
  have k37 : ∀ (n : Nat) (a4 a5 a6 a7 : Int), 40 - a7 ≤ (n : Int) → 0 ≤ a7 → K_X6_stepName_37 s p u a4 a5 a6 a7 Q := by
    intro n
    induction n with
    | zero =>
      intro a4 a5 a6 a7 hn h7
      refine s_X6_stepName_37 ?_
      (repeat' (with_reducible first | refine ⟨?_, ?_⟩ | intro _))
      all_goals first | omega | exact k101 _
    | succ n ih =>
      intro a4 a5 a6 a7 hn h7
      have k84 : ∀ b5, a7 < 40 → K_X6_stepName_84 s p u a4 b5 a6 a7 Q := fun b5 h => s_X6_stepName_84 fun _ _ _ _ _ _ _ => ⟨P_parent _ _ _, by omega, ih _ _ _ _ (by omega) (by omega)⟩
      refine s_X6_stepName_37 ?_
      (repeat' (with_reducible first | refine ⟨?_, ?_⟩ | intro _))
      all_goals first | omega | exact k101 _ | exact k84 _ (by omega)
  have k22 : ∀ t4 t0, K_X6_stepName_22 s p u t4 t0 Q := fun t4 t0 => s_X6_stepName_22 fun _ _ _ _ _ => ⟨P_parent _ _ _, k37 40 _ _ _ 0 (by omega) (by omega)⟩
  refine s_X6_stepName fun _ _ _ _ => ⟨P_target _ _ _, fun _ => k22 _ _, fun _ => k22 _ _⟩
end X6U
