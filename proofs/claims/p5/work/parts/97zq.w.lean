/-! THE CLASS: a run -/
section X6V
variable {s0 s : ST}
theorem x_X6_work {Q : ST → Prop} (k : KX s0 s) (hQ : ∀ s', KX s0 s' → Q s') : C_X6_work s Q := by
  have h2 : 0 ≤ s.1 2 0 := k.1.zx.t0 (Or.inl rfl)
  have k116 : ∀ s1 t1, KX s0 s1 → K_X6_work_116 s1 t1 Q := by
    intro s1 t1 k1
    refine s_X6_work_116 ?_
    (repeat' (with_reducible first | refine ⟨?_, ?_⟩ | intro _))
    · exact x_X6_numberOf fun v => hQ _ k1
    · exact hQ _ k1
  have k93 : ∀ s1, KX s0 s1 → K_X6_work_93 s1 Q := by
    intro s1 k1
    refine s_X6_work_93 ?_
    (repeat' (with_reducible first | refine ⟨?_, ?_⟩ | intro _))
    all_goals first | omega | exact P_head _ _ | exact k116 _ _ k1
  have k57 : ∀ (n : Nat) (s1 : ST) (a1 : Int), 1000000 - a1 ≤ (n : Int) → 0 ≤ a1 → KX s0 s1 → K_X6_work_57 s1 a1 Q := by
    intro n
    induction n with
    | zero =>
      intro s1 a1 hn h1 k1
      refine s_X6_work_57 fun hra _ => ?_
      have r12 := hra 80 12
      (repeat' (with_reducible first | refine ⟨?_, ?_⟩ | intro _))
      all_goals first | omega | exact k93 _ k1
    | succ n ih =>
      intro s1 a1 hn h1 k1
      refine s_X6_work_57 fun hra _ => ?_
      have r12 := hra 80 12
      (repeat' (with_reducible first | refine ⟨?_, ?_⟩ | intro _))
      all_goals first | omega | exact k93 _ k1 | skip
      refine x_X6_step k1 fun s2 k2 => ?_
      (repeat' (with_reducible first | refine ⟨?_, ?_⟩ | intro _))
      all_goals first | omega | exact ih _ _ (by omega) (by omega) k2
  refine s_X6_work fun hra => ?_
  have r20 := hra 2 0
  (repeat' (with_reducible first | refine ⟨?_, ?_⟩ | intro _))
  all_goals first | omega | exact P_root _ _ _ | exact hQ _ k | skip
  exact x_X6_enter k fun s4 k4 => k57 1000000 _ 0 (by omega) (by omega) k4
theorem i_X10_run {p : Int} {Q : ST → Int → Prop} (h : IX s) (hQ : ∀ s' v, KX s s' → Q s' v) : C_X10_run s p Q := by
  refine s_X10_run ?_
  (repeat' (with_reducible first | refine ⟨?_, ?_⟩ | intro _))
  all_goals first | exact hQ _ _ (.rf h) | skip
  refine x_X6_work (.rf h) fun s1 k1 => ?_
  (repeat' (with_reducible first | refine ⟨?_, ?_⟩ | intro _))
  all_goals exact hQ _ _ k1
end X6V
