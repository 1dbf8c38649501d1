/-! THE CLASS: one step of a run -/
section X6V
variable {s0 s : ST}
theorem x_X6_step {p : Int} {Q : ST → Prop} (k : KX s0 s) (hQ : ∀ s', KX s0 s' → Q s') : C_X6_step s p Q := by
  have k1 : KX s0 (ui s 86 p (w32 (s.1 86 p + 1))) := KX_put k (by omega) (fun e => by omega) (fun e => by omega)
  refine s_X6_step ?_
  generalize ui s 86 p (w32 (s.1 86 p + 1)) = s1 at *
  have k214 : ∀ a2 a3 a4, 0 ≤ p ∧ p < 151 → K_X6_step_214 s1 p a2 a3 a4 Q := fun a2 a3 a4 hp => s_X6_step_214 fun _ _ _ _ _ => x_X6_stepParts hp k1 hQ
  (repeat' (with_reducible first | refine ⟨?_, ?_⟩ | intro _))
  all_goals first | omega | exact hQ _ k | exact k214 _ _ _ (by omega) | exact x_X6_stepName k1 hQ | (exact x_X6_cell k1 fun s2 v k2 => x_X6_leave k2 hQ) | exact x_X6_enterOrLeave k1 hQ | exact x_X6_stepIf k1 hQ | exact x_X6_stepCall (by omega) k1 hQ
end X6V
