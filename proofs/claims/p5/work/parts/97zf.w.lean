/-! THE CLASS: all least clashes and mends -/
section X5S
variable {s0 s : ST}
theorem x_X5_mark {p q : Int} {Q : ST → Prop} (k : KX s0 s) (hQ : ∀ s', KX s0 s' → Q s') : C_X5_mark s p q Q := by
  refine s_X5_mark ?_
  (repeat' (with_reducible first | refine ⟨?_, ?_⟩ | intro _))
  all_goals first | omega | exact hQ _ k | exact hQ _ (KX_put k (by omega) (fun e => by omega) (fun e => by omega))
theorem x_X5_markAbove {p : Int} {Q : ST → Prop} (k : KX s0 s) (hQ : ∀ s', KX s0 s' → Q s') : C_X5_markAbove s p Q := by
  have k56 : ∀ s1, KX s0 s1 → K_X5_markAbove_56 s1 p Q := fun s1 k1 => by
    refine s_X5_markAbove_56 ?_
    (repeat' (with_reducible first | refine ⟨?_, ?_⟩ | intro _))
    exact x_X5_mark k1 hQ
  have k24 : ∀ (n : Nat) (s1 : ST) (a2 a3 a4 : Int), 4096 - a4 ≤ (n : Int) → 0 ≤ a4 → KX s0 s1 → K_X5_markAbove_24 s1 p a2 a3 a4 Q := by
    intro n
    induction n with
    | zero =>
      intro s1 a2 a3 a4 hn h4 k1
      refine s_X5_markAbove_24 ?_
      (repeat' (with_reducible first | refine ⟨?_, ?_⟩ | intro _))
      all_goals first | omega | exact k56 _ k1
    | succ n ih =>
      intro s1 a2 a3 a4 hn h4 k1
      refine s_X5_markAbove_24 ?_
      (repeat' (with_reducible first | refine ⟨?_, ?_⟩ | intro _))
      all_goals first | exact k56 _ k1 | skip
      refine x_X5_mark k1 fun s2 k2 => ?_
      (repeat' (with_reducible first | refine ⟨?_, ?_⟩ | intro _))
      all_goals first | omega | exact ih _ _ _ _ (by omega) (by omega) k2
  refine s_X5_markAbove ?_
  (repeat' (with_reducible first | refine ⟨?_, ?_⟩ | intro _))
  exact k24 4096 _ _ _ 0 (by omega) (by omega) (KX_put k (by omega) (fun e => by omega) (fun e => by omega))
theorem x_X5_markBelow {p : Int} {Q : ST → Prop} (k : KX s0 s) (hQ : ∀ s', KX s0 s' → Q s') : C_X5_markBelow s p Q := by
  have k43 : ∀ s1, KX s0 s1 → K_X5_markBelow_43 s1 p Q := fun s1 k1 => by
    refine s_X5_markBelow_43 ?_
    (repeat' (with_reducible first | refine ⟨?_, ?_⟩ | intro _))
    exact x_X5_mark k1 fun s2 k2 => x_X5_mark k2 hQ
  have k14 : ∀ (n : Nat) (s1 : ST) (a3 a4 : Int), 4096 - a4 ≤ (n : Int) → 0 ≤ a4 → KX s0 s1 → K_X5_markBelow_14 s1 p a3 a4 Q := by
    intro n
    induction n with
    | zero =>
      intro s1 a3 a4 hn h4 k1
      refine s_X5_markBelow_14 ?_
      (repeat' (with_reducible first | refine ⟨?_, ?_⟩ | intro _))
      all_goals first | omega | exact k43 _ k1
    | succ n ih =>
      intro s1 a3 a4 hn h4 k1
      refine s_X5_markBelow_14 ?_
      (repeat' (with_reducible first | refine ⟨?_, ?_⟩ | intro _))
      all_goals first | exact k43 _ k1 | skip
      refine x_X5_mark k1 fun s2 k2 => ?_
      (repeat' (with_reducible first | refine ⟨?_, ?_⟩ | intro _))
      all_goals first | omega | exact ih _ _ _ (by omega) (by omega) k2
  refine s_X5_markBelow ?_
  (repeat' (with_reducible first | refine ⟨?_, ?_⟩ | intro _))
  exact k14 4096 _ _ 0 (by omega) (by omega) (KX_put k (by omega) (fun e => by omega) (fun e => by omega))
theorem x_X5_grown {p : Int} {Q : ST → Int → Prop} (hp : 0 ≤ p ∧ p < 4096) (k : KX s0 s) (hQ : ∀ s' v, KX s0 s' → Q s' v) : C_X5_grown s p Q := by
  have k4 : ∀ (n : Nat) (s1 : ST) (a2 a3 : Int), 12 - a3 ≤ (n : Int) → 0 ≤ a3 → 0 ≤ a2 ∧ a2 < 4096 → KX s0 s1 → K_X5_grown_4 s1 a2 a3 Q := by
    intro n
    induction n with
    | zero =>
      intro s1 a2 a3 hn h3 h2 k1
      refine s_X5_grown_4 ?_
      (repeat' (with_reducible first | refine ⟨?_, ?_⟩ | intro _))
      all_goals first | omega | exact hQ _ _ k1
    | succ n ih =>
      intro s1 a2 a3 hn h3 h2 k1
      have k87 : ∀ a4 a5 t, a3 < 12 → 0 ≤ a4 ∧ a4 < 4096 → K_X5_grown_87 s1 a2 a3 a4 a5 t Q := by
        intro a4 a5 t h5 h4
        refine s_X5_grown_87 ?_
        (repeat' (with_reducible first | refine ⟨?_, ?_⟩ | intro _))
        all_goals first | omega | exact ih _ _ _ (by omega) (by omega) h2 k1 | exact ih _ _ _ (by omega) (by omega) h4 k1 | skip
        refine x_X0_clashOf (Or.inl rfl) k1 fun s2 v k2 => ?_
        (repeat' (with_reducible first | refine ⟨?_, ?_⟩ | intro _))
        all_goals first | omega | exact ih _ _ _ (by omega) (by omega) h2 k2 | exact ih _ _ _ (by omega) (by omega) h4 k2
      have k58 : ∀ a4 t, a3 < 12 → 0 ≤ a4 ∧ a4 < 4096 → K_X5_grown_58 s1 a2 a3 a4 t Q := by
        intro a4 t h5 h4
        have k82 : ∀ t, K_X5_grown_82 s1 a2 a3 a4 t Q := fun t => by
          refine s_X5_grown_82 ?_
          (repeat' (with_reducible first | refine ⟨?_, ?_⟩ | intro _))
          exact k87 _ _ _ h5 h4
        refine s_X5_grown_58 ?_
        (repeat' (with_reducible first | refine ⟨?_, ?_⟩ | intro _))
        all_goals first | omega | exact k82 _ | exact k87 _ _ _ h5 h4
      refine s_X5_grown_4 ?_
      by_cases h5 : a3 < 12
      · have hi := ior_lt h2 (ishl11 h3 (by omega))
        (repeat' (with_reducible first | refine ⟨?_, ?_⟩ | intro _))
        all_goals first | omega | exact hQ _ _ k1 | exact ih _ _ _ (by omega) (by omega) h2 k1 | exact k58 _ _ h5 hi
      · (repeat' (with_reducible first | refine ⟨?_, ?_⟩ | intro _))
        all_goals first | omega | exact hQ _ _ k1
  refine s_X5_grown ?_
  (repeat' (with_reducible first | refine ⟨?_, ?_⟩ | intro _))
  exact k4 12 _ _ 0 (by omega) (by omega) hp k
theorem x_X5_find {p : Int} {Q : ST → Prop} (k : KX s0 s) (hQ : ∀ s', KX s0 s' → Q s') : C_X5_find s p Q := by
  have k74 : ∀ (n : Nat) (s1 : ST) (a2 : Int), 4096 - a2 ≤ (n : Int) → 0 ≤ a2 → KX s0 s1 → K_X5_find_74 s1 a2 Q := by
    intro n
    induction n with
    | zero =>
      intro s1 a2 hn h2 k1
      refine s_X5_find_74 ?_
      (repeat' (with_reducible first | refine ⟨?_, ?_⟩ | intro _))
      all_goals first | omega | exact hQ _ k1
    | succ n ih =>
      intro s1 a2 hn h2 k1
      refine s_X5_find_74 ?_
      (repeat' (with_reducible first | refine ⟨?_, ?_⟩ | intro _))
      all_goals first | omega | exact hQ _ k1 | exact ih _ _ (by omega) (by omega) k1 | skip
      refine x_X0_clashOf (Or.inl rfl) k1 fun s2 v k2 => ?_
      (repeat' (with_reducible first | refine ⟨?_, ?_⟩ | intro _))
      · refine x_X5_grown (by omega) k2 fun s3 v3 k3 => x_X5_markBelow k3 fun s4 k4 => ?_
        (repeat' (with_reducible first | refine ⟨?_, ?_⟩ | intro _))
        all_goals first | omega | exact ih _ _ (by omega) (by omega) k4
      · refine x_X5_markAbove k2 fun s4 k4 => ?_
        (repeat' (with_reducible first | refine ⟨?_, ?_⟩ | intro _))
        all_goals first | omega | exact ih _ _ (by omega) (by omega) k4
  have k44 : ∀ (n : Nat) (s1 : ST) (a2 : Int), 4096 - a2 ≤ (n : Int) → 0 ≤ a2 → KX s0 s1 → K_X5_find_44 s1 a2 Q := by
    intro n
    induction n with
    | zero =>
      intro s1 a2 hn h2 k1
      refine s_X5_find_44 ?_
      (repeat' (with_reducible first | refine ⟨?_, ?_⟩ | intro _))
      all_goals first | omega | exact k74 4096 _ 0 (by omega) (by omega) k1
    | succ n ih =>
      intro s1 a2 hn h2 k1
      refine s_X5_find_44 ?_
      (repeat' (with_reducible first | refine ⟨?_, ?_⟩ | intro _))
      all_goals first | omega | exact k74 4096 _ 0 (by omega) (by omega) k1 | exact ih _ _ (by omega) (by omega) (KX_put k1 (by omega) (fun e => by omega) (fun e => by omega))
  refine s_X5_find ?_
  by_cases hp : 0 ≤ p ∧ p ≤ 12
  · have hi := ishl12 hp.1 hp.2
    (repeat' (with_reducible first | refine ⟨?_, ?_⟩ | intro _))
    all_goals first | omega | exact hQ _ k | skip
    exact k44 4096 _ 0 (by omega) (by omega) (KX_put (KX_put (KX_put (KX_put k (by omega) (fun e => by omega) (fun e => by omega)) (by omega) (fun e => by omega) (fun e => by omega)) (by omega) (fun e => by omega) (fun e => by omega)) (by omega) (fun e => by omega) (fun e => by omega))
  · (repeat' (with_reducible first | refine ⟨?_, ?_⟩ | intro _))
    all_goals first | omega | exact hQ _ k
theorem x_X5_clashAt {p : Int} {Q : ST → Int64 → Prop} (hQ : ∀ v, Q s v) : C_X5_clashAt s p Q := by
  have k4 : ∀ (n : Nat) (a2 a3 : Int), 4096 - a3 ≤ (n : Int) → 0 ≤ a3 → K_X5_clashAt_4 s p a2 a3 Q := by
    intro n
    induction n with
    | zero =>
      intro a2 a3 hn h3
      refine s_X5_clashAt_4 ?_
      (repeat' (with_reducible first | refine ⟨?_, ?_⟩ | intro _))
      all_goals first | omega | exact hQ _
    | succ n ih =>
      intro a2 a3 hn h3
      refine s_X5_clashAt_4 ?_
      (repeat' (with_reducible first | refine ⟨?_, ?_⟩ | intro _))
      all_goals first | omega | exact hQ _ | exact ih _ _ (by omega) (by omega)
  refine s_X5_clashAt ?_
  (repeat' (with_reducible first | refine ⟨?_, ?_⟩ | intro _))
  exact k4 4096 _ 0 (by omega) (by omega)
theorem x_X5_mendNumbered {p : Int} {Q : ST → Int64 → Prop} (hQ : ∀ v, Q s v) : C_X5_mendNumbered s p Q := by
  have k13 : ∀ (n : Nat) (a2 a3 : Int), a3 + 1 ≤ (n : Int) → a3 ≤ 4095 → K_X5_mendNumbered_13 s p a2 a3 Q := by
    intro n
    induction n with
    | zero =>
      intro a2 a3 hn h3
      refine s_X5_mendNumbered_13 ?_
      (repeat' (with_reducible first | refine ⟨?_, ?_⟩ | intro _))
      all_goals first | omega | exact hQ _
    | succ n ih =>
      intro a2 a3 hn h3
      refine s_X5_mendNumbered_13 ?_
      (repeat' (with_reducible first | refine ⟨?_, ?_⟩ | intro _))
      all_goals first | omega | exact hQ _ | exact ih _ _ (by omega) (by omega)
  have hz : zmin (s.1 67 3) 4095 ≤ 4095 := by unfold zmin; split <;> omega
  refine s_X5_mendNumbered ?_
  (repeat' (with_reducible first | refine ⟨?_, ?_⟩ | intro _))
  exact k13 4096 _ _ (by omega) hz
theorem x_X5_countBeside {p : Int64} {Q : ST → Int → Prop} (hQ : ∀ v, Q s v) : C_X5_countBeside s p Q := by
  have k4 : ∀ (n : Nat) (a2 a3 : Int), 4096 - a3 ≤ (n : Int) → 0 ≤ a3 → K_X5_countBeside_5 s p a2 a3 Q := by
    intro n
    induction n with
    | zero =>
      intro a2 a3 hn h3
      refine s_X5_countBeside_5 ?_
      (repeat' (with_reducible first | refine ⟨?_, ?_⟩ | intro _))
      all_goals first | omega | exact hQ _
    | succ n ih =>
      intro a2 a3 hn h3
      refine s_X5_countBeside_5 ?_
      (repeat' (with_reducible first | refine ⟨?_, ?_⟩ | intro _))
      all_goals first | omega | exact hQ _ | exact ih _ _ (by omega) (by omega)
  refine s_X5_countBeside ?_
  (repeat' (with_reducible first | refine ⟨?_, ?_⟩ | intro _))
  exact k4 4096 _ 0 (by omega) (by omega)
theorem x_X5_commonBeside {p : Int64} {Q : ST → Int64 → Prop} (hQ : ∀ v, Q s v) : C_X5_commonBeside s p Q := by
  have k69 : ∀ a3 a5, K_X5_commonBeside_69 s a3 a5 Q := by
    intro a3 a5
    refine s_X5_commonBeside_69 ?_
    (repeat' (with_reducible first | refine ⟨?_, ?_⟩ | intro _))
    all_goals exact hQ _
  have k12 : ∀ (n : Nat) (a3 : Int64) (a5 a6 : Int), 4096 - a6 ≤ (n : Int) → 0 ≤ a6 → K_X5_commonBeside_12 s p a3 a5 a6 Q := by
    intro n
    induction n with
    | zero =>
      intro a3 a5 a6 hn h3
      refine s_X5_commonBeside_12 ?_
      (repeat' (with_reducible first | refine ⟨?_, ?_⟩ | intro _))
      all_goals first | omega | exact k69 _ _
    | succ n ih =>
      intro a3 a5 a6 hn h3
      refine s_X5_commonBeside_12 ?_
      (repeat' (with_reducible first | refine ⟨?_, ?_⟩ | intro _))
      all_goals first | omega | exact k69 _ _ | exact ih _ _ _ (by omega) (by omega)
  refine s_X5_commonBeside ?_
  (repeat' (with_reducible first | refine ⟨?_, ?_⟩ | intro _))
  exact k12 4096 _ _ 0 (by omega) (by omega)
end X5S
