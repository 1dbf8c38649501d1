/-! THE CLASS: write, ways, hints -/
section X3S
variable {s0 s : ST} {o : Nat}
theorem x_X2_write {p q u : Int} {Q : ST → Prop} (ho : isT o) (k : KX s0 s) (hQ : ∀ s', KX s0 s' → Q s') : C_X2_write o s p q u Q := by
  have k23 : ∀ (n : Nat) (s1 : ST) (a5 : Int), 8 - a5 ≤ (n : Int) → 0 ≤ a5 → KX s0 s1 → (0 ≤ s1.1 18 0 ∧ s1.1 18 0 ≤ a5) → K_X2_write_23 o s1 p q u a5 Q := by
    intro n
    induction n with
    | zero =>
      intro s1 a5 hn h5 k1 hd
      refine s_X2_write_23 ?_
      (repeat' (with_reducible first | refine ⟨?_, ?_⟩ | intro _))
      all_goals first | omega | exact P_root _ _ _ | exact hQ _ k1
    | succ n ih =>
      intro s1 a5 hn h5 k1 hd
      have k84 : ∀ (m : Nat) (s2 : ST) (a6 : Int), 41 - a6 ≤ (m : Int) → 0 ≤ a6 → a5 < 8 → KX s0 s2 → (0 ≤ s2.1 18 0 ∧ s2.1 18 0 ≤ a5 + 1) → K_X2_write_84 o s2 p q u a5 a6 Q := by
        intro m
        induction m with
        | zero =>
          intro s2 a6 hm h6 h8 k2 hd2
          refine s_X2_write_84 ?_
          (repeat' (with_reducible first | refine ⟨?_, ?_⟩ | intro _))
          all_goals first | omega | exact ih _ _ (by omega) (by omega) k2 (by omega)
        | succ m ihm =>
          intro s2 a6 hm h6 h8 k2 hd2
          have h17 := k2.1.2.2.2.2.2.1
          have y0 : KY s2 (ui s2 17 6 (s2.1 17 6 - 1)) := KY_pile (.rf k2.1) (by omega)
          refine s_X2_write_84 ?_
          (repeat' (with_reducible first | refine ⟨?_, ?_⟩ | intro _))
          all_goals first | omega | exact ih _ _ (by omega) (by omega) k2 (by omega) | skip
          refine y_X9_add (Or.inr (Or.inl rfl)) y0.1.1 fun s5 v5 y5 _ => ?_
          refine y_X2_writePlace ho (y0.tr y5) fun s6 y6 => ?_
          have k188 : ∀ s7 t3, KY s2 s7 → a6 ≤ 40 → K_X2_write_188 o s7 p q u a5 a6 (s2.1 35 (s2.1 17 6 - 1)) t3 Q := by
            intro s7 t3 y7 h40
            refine s_X2_write_188 ?_
            intros
            refine y_X2_pileKids y7 fun s8 y8 => ⟨by omega, ihm _ _ (by omega) (by omega) h8 (k2.tr y8.1) (by have := y8.2; omega)⟩
          have k173 : ∀ s7, KY s2 s7 → a6 ≤ 40 → K_X2_write_173 o s7 p q u a5 a6 (s2.1 35 (s2.1 17 6 - 1)) Q := by
            intro s7 y7 h40
            refine s_X2_write_173 ?_
            (repeat' (with_reducible first | refine ⟨?_, ?_⟩ | intro _))
            all_goals exact k188 _ _ y7 h40
          (repeat' (with_reducible first | refine ⟨?_, ?_⟩ | intro _))
          · exact k173 _ y6 (by omega)
          · exact y_X2_changePlace ho y6 fun s7 y7 => k173 _ y7 (by omega)
      have k5 : KX s0 (ui (uj s1 19 a5 (s1.2 (o + 1) a5)) 18 0 (s1.1 18 0 + 1)) := KX.ut (k1.uj) (Or.inr (Or.inl rfl)) (fun _ => by omega)
      have e5 : (ui (uj s1 19 a5 (s1.2 (o + 1) a5)) 18 0 (s1.1 18 0 + 1)).1 18 0 = s1.1 18 0 + 1 := ui_same
      refine s_X2_write_23 ?_
      (repeat' (with_reducible first | refine ⟨?_, ?_⟩ | intro _))
      all_goals first | omega | exact P_root _ _ _ | exact hQ _ k1 | skip
      generalize ui (uj s1 19 a5 (s1.2 (o + 1) a5)) 18 0 (s1.1 18 0 + 1) = s5 at *
      refine y_X2_pileUp (.rf k5.1) fun s6 y6 => k84 41 _ 0 (by omega) (by omega) (by omega) (k5.tr y6.1) (by have := y6.2; omega)
  refine s_X2_write ?_
  intros
  refine s_X9_clear fun _ _ => s_X9_copyKindWords fun _ _ _ => ?_
  have f18 : isT 18 := Or.inr (Or.inl rfl)
  have f32 : freeC 32 := by unfold freeC; omega
  have f17 : ∀ s1, KX s0 s1 → KX s0 (ui s1 17 6 0) := fun s1 k1 => k1.tr (KY_pile (.rf k1.1) (by omega)).1
  refine k23 8 _ 0 (by omega) (by omega) (f17 _ (KX.cpI (((((k.ut f18).ut f18).ut f18).ut f18)) f32)) ?_
  have e : (ui (cpI (ui (ui (ui (ui s 18 0 0) 18 1 0) 18 2 0) 18 2 ((ui (ui (ui s 18 0 0) 18 1 0) 18 2 0).1 o 2)) (o + 14) (18 + 14) 20) 17 6 0).1 18 0 = 0 := by
    rw [ui_cell (by decide), cpI_cell (by decide), ui_ne (by decide), ui_ne (by decide), ui_ne (by decide), ui_same]
  rw [e]; omega
theorem x_X2_ways {p q : Int} {Q : ST → Int → Prop} (k : KX s0 s) (hQ : ∀ s' v, KX s0 s' → Q s' v) : C_X2_ways o s p q Q := by
  refine s_X2_ways ?_
  (repeat' (with_reducible first | refine ⟨?_, ?_⟩ | intro _))
  all_goals first | omega | exact P_sort _ _ _ | exact hQ _ _ k | skip
  exact x_X9_choicesAt (Or.inl rfl) k.1 fun s4 v k4 => hQ _ _ (k.tr k4)
theorem x_X3_keep {p q u : Int} {Q : ST → Prop} (k : KX s0 s) (hQ : ∀ s', KX s0 s' → Q s') : C_X3_keep s p q u Q := by
  refine s_X3_keep ?_
  (repeat' (with_reducible first | refine ⟨?_, ?_⟩ | intro _))
  all_goals first | omega | exact hQ _ k | skip
theorem x_X3_list {p : Int64} {Q : ST → Prop} (k : KX s0 s) (hQ : ∀ s', KX s0 s' → Q s') : C_X3_list s p Q := by
  have k20 : ∀ (n : Nat) (s1 : ST) (a3 : Int), 24 - a3 ≤ (n : Int) → 0 ≤ a3 → KX s0 s1 → K_X3_list_20 s1 p a3 Q := by
    intro n
    induction n with
    | zero =>
      intro s1 a3 hn h3 k1
      refine s_X3_list_20 ?_
      (repeat' (with_reducible first | refine ⟨?_, ?_⟩ | intro _))
      all_goals first | omega | exact hQ _ k1
    | succ n ih =>
      intro s1 a3 hn h3 k1
      have k40 : ∀ (m : Nat) (s2 : ST) (a4 : Int), 5 - a4 ≤ (m : Int) → 0 ≤ a4 → a3 < 24 → KX s0 s2 → K_X3_list_40 s2 p a3 a4 Q := by
        intro m
        induction m with
        | zero =>
          intro s2 a4 hm h4 h24 k2
          refine s_X3_list_40 ?_
          (repeat' (with_reducible first | refine ⟨?_, ?_⟩ | intro _))
          all_goals first | omega | exact ih _ _ (by omega) (by omega) k2
        | succ m ihm =>
          intro s2 a4 hm h4 h24 k2
          have k75 : ∀ (l : Nat) (s3 : ST) (a5 a6 : Int), a5 - a6 ≤ (l : Int) → 0 ≤ a6 → a4 < 5 → KX s0 s3 → K_X3_list_75 s3 p a3 a4 a5 a6 Q := by
            intro l
            induction l with
            | zero =>
              intro s3 a5 a6 hl h6 h5 k3
              refine s_X3_list_75 ?_
              (repeat' (with_reducible first | refine ⟨?_, ?_⟩ | intro _))
              all_goals first | omega | exact ihm _ _ (by omega) (by omega) h24 k3
            | succ l ihl =>
              intro s3 a5 a6 hl h6 h5 k3
              refine s_X3_list_75 ?_
              (repeat' (with_reducible first | refine ⟨?_, ?_⟩ | intro _))
              all_goals first | omega | exact ihm _ _ (by omega) (by omega) h24 k3 | skip
              refine x_X2_write (Or.inl rfl) k3 fun s4 k4 => x_X0_list (Or.inr rfl) k4.1 fun s5 k5 => ?_
              have k6 := k4.tr k5
              (repeat' (with_reducible first | refine ⟨?_, ?_⟩ | intro _))
              all_goals first | omega | exact ihl _ _ _ (by omega) (by omega) h5 k6 | skip
              refine x_X0_clashOf (Or.inr rfl) k6 fun s7 v7 k7 => ?_
              (repeat' (with_reducible first | refine ⟨?_, ?_⟩ | intro _))
              all_goals first | omega | exact ihl _ _ _ (by omega) (by omega) h5 k7 | skip
              refine x_X3_keep k7 fun s9 k9 => ?_
              (repeat' (with_reducible first | refine ⟨?_, ?_⟩ | intro _))
              all_goals first | omega | exact ihl _ _ _ (by omega) (by omega) h5 k9
          refine s_X3_list_40 ?_
          (repeat' (with_reducible first | refine ⟨?_, ?_⟩ | intro _))
          all_goals first | omega | exact ih _ _ (by omega) (by omega) k2 | skip
          refine x_X2_ways k2 fun s3 v3 k3 => ?_
          exact k75 v3.toNat _ _ 0 (by omega) (by omega) (by omega) k3
      refine s_X3_list_20 ?_
      (repeat' (with_reducible first | refine ⟨?_, ?_⟩ | intro _))
      all_goals first | omega | exact hQ _ k1 | exact k40 5 _ 0 (by omega) (by omega) (by omega) k1
  refine s_X3_list ?_
  (repeat' (with_reducible first | refine ⟨?_, ?_⟩ | intro _))
  all_goals first | exact hQ _ k | skip
  exact k20 24 _ 0 (by omega) (by omega) (KX_put (KX_put k (by omega) (fun e => by omega) (fun e => by omega)) (by omega) (fun e => by omega) (fun e => by omega))
end X3S
