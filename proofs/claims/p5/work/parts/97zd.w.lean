/-! THE CLASS: clashOf, allFit, core, meet; the cheapest mend -/
section XC
variable {s0 s : ST} {a : Nat}
theorem x_X0_clashOf {p : Int64} {Q : ST → Int → Prop} (ha : isA a) (k : KX s0 s) (hQ : ∀ s' v, KX s0 s' → Q s' v) : C_X0_clashOf a s p Q := by
  have k61 : ∀ s1, KX s0 s1 → K_X0_clashOf_61 a s1 Q := by
    intro s1 k1
    refine s_X0_clashOf_61 ?_
    (repeat' (with_reducible first | refine ⟨?_, ?_⟩ | intro _))
    exact x_X4_hasRing k1 fun s2 v k2 _ => hQ _ _ k2
  have k15 : ∀ (n : Nat) (s1 : ST) (a3 : Int), 400 - a3 ≤ (n : Int) → 0 ≤ a3 → KX s0 s1 → K_X0_clashOf_15 a s1 p a3 Q := by
    intro n
    induction n with
    | zero =>
      intro s1 a3 hn h3 k1
      refine s_X0_clashOf_15 ?_
      (repeat' (with_reducible first | refine ⟨?_, ?_⟩ | intro _))
      all_goals first | omega | exact k61 _ k1
    | succ n ih =>
      intro s1 a3 hn h3 k1
      refine s_X0_clashOf_15 ?_
      (repeat' (with_reducible first | refine ⟨?_, ?_⟩ | intro _))
      all_goals first | omega | exact k61 _ k1 | exact ih _ _ (by omega) (by omega) k1 | skip
      refine x_X0_ask k1 fun s2 v k2 => ?_
      (repeat' (with_reducible first | refine ⟨?_, ?_⟩ | intro _))
      all_goals first | omega | exact hQ _ _ k2 | exact ih _ _ (by omega) (by omega) k2
  have ak := (k.1.ak ha).1.1
  refine s_X0_clashOf ?_
  (repeat' (with_reducible first | refine ⟨?_, ?_⟩ | intro _))
  all_goals first | omega | (unfold R32; omega) | exact x_X4_begin k fun s1 k1 => k15 400 _ 0 (by omega) (by omega) k1
theorem x_X0_allFit {Q : ST → Int → Prop} (ha : isA a) (k : KX s0 s) (hQ : ∀ s' v, KX s0 s' → Q s' v) : C_X0_allFit a s Q := by
  have h01 := (k.1.ak ha).1.2
  refine s_X0_allFit ?_
  (repeat' (with_reducible first | refine ⟨?_, ?_⟩ | intro _))
  all_goals first | omega | exact hQ _ _ k | skip
  refine x_X0_clashOf ha k fun s1 v k1 => ?_
  have w : ∀ v, (v = 0 ∨ v = 1) → KX s0 (ui (ui s1 a 3 v) a 2 1) := fun v hv => KX_put (KX_put k1 (by omega) (fun _ e => by omega) (fun e => by omega) (fun _ _ => hv)) (by omega) (fun _ e => by omega) (fun e => by omega)
  have e3 : ∀ v, (ui (ui s1 a 3 v) a 2 1).1 a 3 = v := fun v => by rw [ui_ne (by decide), ui_same]
  rw [e3, e3]
  (repeat' (with_reducible first | refine ⟨?_, ?_⟩ | intro _))
  all_goals first | omega | exact hQ _ _ (w _ (by omega))
theorem x_X0_coreWithin {p : Int64} {Q : ST → Int64 → Prop} (ha : isA a) (k : KX s0 s) (hQ : ∀ s' v, KX s0 s' → Q s' v) : C_X0_coreWithin a s p Q := by
  have k15 : ∀ (n : Nat) (s1 : ST) (a3 : Int64) (a5 : Int), 40 - a5 ≤ (n : Int) → 0 ≤ a5 → KX s0 s1 → K_X0_coreWithin_15 a s1 a3 a5 Q := by
    intro n
    induction n with
    | zero =>
      intro s1 a3 a5 hn h5 k1
      refine s_X0_coreWithin_15 ?_
      (repeat' (with_reducible first | refine ⟨?_, ?_⟩ | intro _))
      all_goals first | omega | exact hQ _ _ k1
    | succ n ih =>
      intro s1 a3 a5 hn h5 k1
      refine s_X0_coreWithin_15 ?_
      (repeat' (with_reducible first | refine ⟨?_, ?_⟩ | intro _))
      all_goals first | omega | exact hQ _ _ k1 | exact ih _ _ _ (by omega) (by omega) k1 | skip
      refine x_X0_clashOf ha k1 fun s2 v k2 => ?_
      (repeat' (with_reducible first | refine ⟨?_, ?_⟩ | intro _))
      all_goals first | omega | exact ih _ _ _ (by omega) (by omega) k2
  refine s_X0_coreWithin ?_
  (repeat' (with_reducible first | refine ⟨?_, ?_⟩ | intro _))
  refine x_X0_clashOf ha k fun s2 v k2 => ?_
  (repeat' (with_reducible first | refine ⟨?_, ?_⟩ | intro _))
  all_goals first | exact hQ _ _ k2 | exact k15 40 _ _ 0 (by omega) (by omega) k2
theorem x_X0_coreOfAll {Q : ST → Int64 → Prop} (ha : isA a) (k : KX s0 s) (hQ : ∀ s' v, KX s0 s' → Q s' v) : C_X0_coreOfAll a s Q := by
  refine s_X0_coreOfAll ?_
  (repeat' (with_reducible first | refine ⟨?_, ?_⟩ | intro _))
  · exact hQ _ _ k
  · refine x_X0_allFit ha k fun s1 v k1 => ?_
    (repeat' (with_reducible first | refine ⟨?_, ?_⟩ | intro _))
    · refine x_X0_coreWithin ha k1 fun s3 v3 k3 => ?_
      exact hQ _ _ (KX_put (k3.uj (c := a) (x := 5)) (by omega) (fun _ e => by omega) (fun e => by omega))
    · exact hQ _ _ (KX_put (k1.uj (c := a) (x := 5)) (by omega) (fun _ e => by omega) (fun e => by omega))
theorem P_node {s : ST} {a : Nat} {p : Int} (h : AK s a) : P_X0_nodeOf a s p := fun h0 h1 => ⟨by omega, fun _ => by
  have := (h.2 p (by omega) (by omega)).1
  unfold P_X0_kindNode R32; omega⟩
theorem x_X0_meet {p q : Int} {Q : ST → Int → Prop} (ha : isA a) (k : KX s0 s) (hQ : ∀ s' v, KX s0 s' → Q s' v) : C_X0_meet a s p q Q := by
  refine s_X0_meet ?_
  (repeat' (with_reducible first | refine ⟨?_, ?_⟩ | intro _))
  refine x_X0_clashOf ha k fun s2 v k2 => ?_
  intro _
  refine ⟨fun _ => hQ _ _ k2, fun _ => ⟨P_node (k2.1.ak ha), P_node (k2.1.ak ha), x_X4_join k2 fun s7 v7 k7 _ => ⟨fun _ => hQ _ _ k7, fun _ => x_X4_hasRing k7 fun s8 v8 k8 _ => ⟨fun _ => hQ _ _ k8, fun _ => hQ _ _ k8⟩⟩⟩⟩
end XC
