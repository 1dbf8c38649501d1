/-! THE CLASS: program -/
theorem i_X10_program {s : ST} {Q : ST → Int → Prop} (h : IX s) (hQ : ∀ s' v, IX s' → s'.1 0 1 = 0 → s'.1 0 2 = s.1 0 2 → Q s' v) : C_X10_program s Q := by
  have mm : md [(0, 1)] [1] s (ui s 0 1 0) := (by repeat' (first | exact md.rf | assumption | refine md.ui ?_ ?_ | refine md.uj ?_ ?_ | exact Or.inr (by decide) | exact Or.inl (by decide)))
  have e1 : (ui s 0 1 0).1 0 1 = 0 := ui_same
  have h0 := h.tape mm (by omega)
  have hK : ∀ s' v, KX (ui s 0 1 0) s' → Q s' v := fun s' v k => hQ s' v k.1 (k.2.1.trans e1) (k.2.2.trans h0.2)
  have k52 : ∀ (n : Nat) (s1 : ST) (a2 : Int), 3 - a2 ≤ (n : Int) → 0 ≤ a2 → KX (ui s 0 1 0) s1 → K_X10_program_52 s1 a2 Q := by
    intro n
    induction n with
    | zero =>
      intro s1 a2 hn h2 k1
      refine s_X10_program_52 ?_
      (repeat' (with_reducible first | refine ⟨?_, ?_⟩ | intro _))
      all_goals first | omega | exact x_X10_goOnWith k1 fun s2 v k2 => hK _ _ k2
    | succ n ih =>
      intro s1 a2 hn h2 k1
      refine s_X10_program_52 ?_
      (repeat' (with_reducible first | refine ⟨?_, ?_⟩ | intro _))
      all_goals first | omega | exact x_X10_goOnWith k1 fun s2 v k2 => hK _ _ k2 | exact ih _ _ (by omega) (by omega) (KX_put k1 (by omega) (fun e => by omega) (fun e => by omega))
  refine s_X10_program ?_
  (repeat' (with_reducible first | refine ⟨?_, ?_⟩ | intro _))
  refine x_X7_readText (.rf h0.1) fun s1 v k1 => ?_
  (repeat' (with_reducible first | refine ⟨?_, ?_⟩ | intro _))
  all_goals first | exact hK _ _ k1 | skip
  refine x_X0_list (Or.inr rfl) k1.1 fun s2 k2 => ?_
  have k3 := k1.tr k2
  (repeat' (with_reducible first | refine ⟨?_, ?_⟩ | intro _))
  all_goals first | exact k52 3 _ 0 (by omega) (by omega) k3 | skip
  refine s_X7_refuseAskings ?_
  (repeat' (with_reducible first | refine ⟨?_, ?_⟩ | intro _))
  exact hK _ _ (KX_put (KX_put k3 (by omega) (fun e => by omega) (fun e => by omega)) (by omega) (fun e => by omega) (fun e => by omega))
