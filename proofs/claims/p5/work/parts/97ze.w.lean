/-! THE CLASS: the cheapest mend; rights -/
section X1S
variable {s0 s : ST}
theorem x_X1_forget {Q : ST → Prop} (k : KX s0 s) (hQ : ∀ s', KX s0 s' → Q s') : C_X1_forget s Q :=
  s_X1_forget fun _ => hQ _ (KX_put (KX_put k (by omega) (fun e => by omega) (fun e => by omega)) (by omega) (fun e => by omega) (fun e => by omega))
theorem x_X8_forget {Q : ST → Prop} (k : KX s0 s) (hQ : ∀ s', KX s0 s' → Q s') : C_X8_forget s Q :=
  s_X8_forget fun _ => hQ _ (KX_put k (by omega) (fun e => by omega) (fun e => by omega))
theorem x_X1_leastWeight {p : Int64} {Q : ST → Int64 → Prop} (hQ : ∀ v, Q s v) : C_X1_leastWeight s p Q := by
  have k7 : ∀ (n : Nat) (a3 : Int64) (a5 : Int), 24 - a5 ≤ (n : Int) → 0 ≤ a5 → K_X1_leastWeight_7 s p a3 a5 Q := by
    intro n
    induction n with
    | zero =>
      intro a3 a5 hn h5
      refine s_X1_leastWeight_7 ?_
      (repeat' (with_reducible first | refine ⟨?_, ?_⟩ | intro _))
      all_goals first | omega | exact hQ _
    | succ n ih =>
      intro a3 a5 hn h5
      refine s_X1_leastWeight_7 ?_
      (repeat' (with_reducible first | refine ⟨?_, ?_⟩ | intro _))
      all_goals first | omega | exact hQ _ | exact ih _ _ (by omega) (by omega)
  exact s_X1_leastWeight fun _ => k7 24 _ 0 (by omega) (by omega)
theorem x_X1_begin {Q : ST → Prop} (k : KX s0 s) (hQ : ∀ s', KX s0 s' → Q s') : C_X1_begin s Q := by
  have k89 : ∀ s1, KX s0 s1 → K_X1_begin_89 s1 Q := fun s1 k1 => s_X1_begin_89 fun _ => ⟨by omega, hQ _ k1.uj.uj.uj⟩
  have k34 : ∀ (n : Nat) (s1 : ST) (a : Int), 24 - a ≤ (n : Int) → 0 ≤ a → KX s0 s1 → K_X1_begin_34 s1 a Q := by
    intro n
    induction n with
    | zero =>
      intro s1 a hn h0 k1
      refine s_X1_begin_34 ?_
      (repeat' (with_reducible first | refine ⟨?_, ?_⟩ | intro _))
      all_goals first | omega | exact k89 _ k1
    | succ n ih =>
      intro s1 a hn h0 k1
      refine s_X1_begin_34 ?_
      (repeat' (with_reducible first | refine ⟨?_, ?_⟩ | intro _))
      all_goals first | omega | exact k89 _ k1 | exact ih _ _ (by omega) (by omega) k1.uj.uj
  refine s_X1_begin fun _ => ?_
  exact k34 24 _ 0 (by omega) (by omega) (KX.uj (KX.uj (KX_put k (by omega) (fun e => by omega) (fun e => by omega))))
theorem x_X1_branches {p : Int} {Q : ST → Int64 → Prop} (hQ : ∀ v, Q s v) : C_X1_branches s p Q := by
  have k155 : ∀ a2 a6, K_X1_branches_155 s a2 a6 Q := by
    intro a2 a6
    refine s_X1_branches_155 ?_
    (repeat' (with_reducible first | refine ⟨?_, ?_⟩ | intro _))
    all_goals exact hQ _
  have k30 : ∀ (n : Nat) (a2 a4 a6 : Int64) (a8 : Int), 512 - a8 ≤ (n : Int) → 0 ≤ a8 → 0 ≤ p → p < 26 → K_X1_branches_30 s p a2 a4 a6 a8 Q := by
    intro n
    induction n with
    | zero =>
      intro a2 a4 a6 a8 hn h8 h0 h1
      refine s_X1_branches_30 ?_
      (repeat' (with_reducible first | refine ⟨?_, ?_⟩ | intro _))
      all_goals first | omega | exact k155 _ _
    | succ n ih =>
      intro a2 a4 a6 a8 hn h8 h0 h1
      have k126 : ∀ b4 b6 a9, a8 < 512 → K_X1_branches_126 s p a2 b4 b6 a8 a9 Q := by
        intro b4 b6 a9 h5
        refine s_X1_branches_126 ?_
        (repeat' (with_reducible first | refine ⟨?_, ?_⟩ | intro _))
        all_goals first | exact ih _ _ _ _ (by omega) (by omega) h0 h1 | omega
      refine s_X1_branches_30 ?_
      (repeat' (with_reducible first | refine ⟨?_, ?_⟩ | intro _))
      all_goals first | exact k155 _ _ | exact hQ _ | exact ih _ _ _ _ (by omega) (by omega) h0 h1 | exact k126 _ _ _ (by omega) | (exact x_X1_leastWeight fun v => k126 _ _ _ (by omega)) | omega
  refine s_X1_branches ?_
  (repeat' (with_reducible first | refine ⟨?_, ?_⟩ | intro _))
  all_goals first | omega | exact hQ _ | exact k30 512 _ _ _ 0 (by omega) (by omega) (by omega) (by omega)
theorem x_X1_learn {p : Int} {q : Int64} {Q : ST → Int64 → Prop} (k : KX s0 s) (hQ : ∀ s' v, KX s0 s' → Q s' v) : C_X1_learn s p q Q := by
  have k77 : ∀ s1, 0 ≤ p → p < 26 → KX s0 s1 → K_X1_learn_77 s1 p q Q := fun s1 h0 h1 k1 => s_X1_learn_77 fun _ _ => ⟨by omega, hQ _ _ k1⟩
  refine s_X1_learn ?_
  (repeat' (with_reducible first | refine ⟨?_, ?_⟩ | intro _))
  all_goals first | omega | exact hQ _ _ k | exact k77 _ (by omega) (by omega) k | exact hQ _ _ k.uj.uj | exact k77 _ (by omega) (by omega) (KX_put (k.uj) (by omega) (fun e => by omega) (fun e => by omega))
theorem x_X1_descend {p : Int} {Q : ST → Int → Prop} (hp : p < 26) (k : KX s0 s) (hQ : ∀ s' v, KX s0 s' → Q s' v) : C_X1_descend s p Q := by
  refine s_X1_descend ?_
  (repeat' (with_reducible first | refine ⟨?_, ?_⟩ | intro _))
  all_goals first | omega | exact hQ _ _ k | skip
  exact x_X1_leastWeight fun v => hQ _ _ k.uj.uj.uj.uj.uj
theorem x_X1_find {Q : ST → Int64 → Prop} (k : KX s0 s) (hQ : ∀ s' v, KX s0 s' → Q s' v) : C_X1_find s Q := by
  have k39 : ∀ (n : Nat) (s1 : ST) (a1 a2 a3 : Int), 1000000 - a3 ≤ (n : Int) → 0 ≤ a3 → KX s0 s1 → K_X1_find_39 s1 a1 a2 a3 Q := by
    intro n
    induction n with
    | zero =>
      intro s1 a1 a2 a3 hn h3 k1
      refine s_X1_find_39 ?_
      (repeat' (with_reducible first | refine ⟨?_, ?_⟩ | intro _))
      all_goals first | omega | exact hQ _ _ k1
    | succ n ih =>
      intro s1 a1 a2 a3 hn h3 k1
      have k135 : ∀ s2 t, 0 ≤ a1 ∧ a1 < 26 → a3 < 1000000 → KX s0 s2 → K_X1_find_135 s2 a1 a3 t Q := by
        intro s2 t h1 h2 k2
        refine s_X1_find_135 ?_
        (repeat' (with_reducible first | refine ⟨?_, ?_⟩ | intro _))
        all_goals first | omega | exact ih _ _ _ _ (by omega) (by omega) k2 | skip
        refine x_X1_descend (by omega) k2 fun s3 v k3 => ?_
        (repeat' (with_reducible first | refine ⟨?_, ?_⟩ | intro _))
        all_goals first | omega | exact ih _ _ _ _ (by omega) (by omega) k3
      have k119 : ∀ s2, 0 ≤ a1 ∧ a1 < 26 → a3 < 1000000 → KX s0 s2 → K_X1_find_119 s2 a1 a3 Q := by
        intro s2 h1 h2 k2
        refine s_X1_find_119 ?_
        (repeat' (with_reducible first | refine ⟨?_, ?_⟩ | intro _))
        all_goals first | omega | exact k135 _ _ h1 h2 k2
      have k70 : ∀ s2, 0 ≤ a1 ∧ a1 < 26 → a3 < 1000000 → KX s0 s2 → K_X1_find_70 s2 a1 a3 Q := by
        intro s2 h1 h2 k2
        refine s_X1_find_70 ?_
        (repeat' (with_reducible first | refine ⟨?_, ?_⟩ | intro _))
        all_goals first | omega | exact k119 _ h1 h2 k2 | skip
        refine x_X0_coreWithin (Or.inl rfl) k2 fun s3 v3 k3 => x_X1_learn k3 fun s4 v4 k4 => ?_
        exact k119 _ h1 h2 k4.uj
      refine s_X1_find_39 ?_
      (repeat' (with_reducible first | refine ⟨?_, ?_⟩ | intro _))
      all_goals first | omega | exact hQ _ _ k1 | exact k70 _ (by omega) (by omega) k1 | skip
      refine x_X1_branches fun v => ?_
      (repeat' (with_reducible first | refine ⟨?_, ?_⟩ | intro _))
      all_goals first | omega | exact k70 _ (by omega) (by omega) k1.uj
  refine s_X1_find ?_
  (repeat' (with_reducible first | refine ⟨?_, ?_⟩ | intro _))
  all_goals first | exact hQ _ _ k | skip
  exact x_X1_begin (KX_put k (by omega) (fun e => by omega) (fun e => by omega)) fun s1 k1 => k39 1000000 _ _ _ 0 (by omega) (by omega) k1
theorem x_X8_tell {p q : Int} {Q : ST → Int → Prop} (k : KX s0 s) (hQ : ∀ s' v, KX s0 s' → Q s' v) : C_X8_tell s p q Q := by
  refine s_X8_tell ?_
  (repeat' (with_reducible first | refine ⟨?_, ?_⟩ | intro _))
  all_goals first | omega | exact hQ _ _ k | skip
theorem x_X8_takeBack {p q : Int} {Q : ST → Int → Prop} (k : KX s0 s) (hQ : ∀ s' v, KX s0 s' → Q s' v) : C_X8_takeBack s p q Q := by
  refine s_X8_takeBack ?_
  (repeat' (with_reducible first | refine ⟨?_, ?_⟩ | intro _))
  all_goals first | omega | exact hQ _ _ k | exact hQ _ _ (KX_put k (by omega) (fun e => by omega) (fun e => by omega))
theorem x_X8_countingAt {p : Int} {Q : ST → Int64 → Prop} (hQ : ∀ v, Q s v) : C_X8_countingAt s p Q := by
  have k5 : ∀ (n : Nat) (a2 : Int64) (a4 : Int), 30 - a4 ≤ (n : Int) → 0 ≤ a4 → K_X8_countingAt_5 s p a2 a4 Q := by
    intro n
    induction n with
    | zero =>
      intro a2 a4 hn h4
      refine s_X8_countingAt_5 ?_
      (repeat' (with_reducible first | refine ⟨?_, ?_⟩ | intro _))
      all_goals first | omega | exact hQ _
    | succ n ih =>
      intro a2 a4 hn h4
      have k48 : ∀ t, a4 < 30 → K_X8_countingAt_48 s p a2 a4 t Q := by
        intro t h5
        refine s_X8_countingAt_48 ?_
        (repeat' (with_reducible first | refine ⟨?_, ?_⟩ | intro _))
        all_goals first | omega | exact ih _ _ (by omega) (by omega)
      have k47 : a4 < 30 → K_X8_countingAt_47 s p a2 a4 Q := fun h5 => by
        refine s_X8_countingAt_47 ?_
        (repeat' (with_reducible first | refine ⟨?_, ?_⟩ | intro _))
        exact k48 _ h5
      refine s_X8_countingAt_5 ?_
      (repeat' (with_reducible first | refine ⟨?_, ?_⟩ | intro _))
      all_goals first | omega | exact hQ _ | exact k47 (by omega) | exact k48 _ (by omega)
  refine s_X8_countingAt ?_
  (repeat' (with_reducible first | refine ⟨?_, ?_⟩ | intro _))
  exact k5 30 _ 0 (by omega) (by omega)
end X1S
