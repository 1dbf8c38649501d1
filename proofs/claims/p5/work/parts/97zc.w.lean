/-! THE CLASS: askings listed, asked -/
section XL
variable {s : ST} {a : Nat}
theorem x_X0_listOne {Q : ST → Prop} (ha : isA a) (h : IX s) (h1 : 1 ≤ s.1 a 15) (hQ : ∀ s', KX s s' → Q s') : C_X0_listOne a s Q := by
  have k173 : ∀ (n : Nat) (s1 : ST) (a1 a2 a3 : Int), a3 + 1 ≤ (n : Int) → -1 ≤ a3 → 0 ≤ a2 ∧ a2 < 40 → KX s s1 → K_X0_listOne_173 a s1 a1 a2 a3 Q := by
    intro n
    induction n with
    | zero =>
      intro s1 a1 a2 a3 hn h3 h2 k
      refine s_X0_listOne_173 ?_
      (repeat' (with_reducible first | refine ⟨?_, ?_⟩ | intro _))
      all_goals first | omega | exact hQ _ k | exact x_X0_listMeant ha k.1 fun s2 k2 => hQ _ (k.tr k2)
    | succ n ih =>
      intro s1 a1 a2 a3 hn h3 h2 k
      refine s_X0_listOne_173 fun _ _ _ _ _ => ⟨fun _ => ⟨h2, fun _ => hQ _ k, fun _ => x_X0_listMeant ha k.1 fun s2 k2 => hQ _ (k.tr k2)⟩, fun hp => ⟨P_kid _ _ _ _, x_X0_pileUp ha k.1 fun s2 k2 => ⟨by unfold R32; omega, ih _ _ _ _ (by omega) (by omega) h2 (k.tr k2)⟩⟩⟩
  have k155 : ∀ (s1 : ST) (a1 a2 : Int), 0 ≤ a1 ∧ a1 < 400 → 0 ≤ a2 ∧ a2 < 40 → KX s s1 → K_X0_listOne_155 a s1 a1 a2 Q := by
    intro s1 a1 a2 h1 h2 k
    have har := arity_r (ui s1 (a + 4) a2 a1) (akT a) a2
    refine s_X0_listOne_155 fun _ _ _ _ => ⟨h2, P_arity _ _ _, by unfold R32; omega, ?_⟩
    exact k173 4 _ _ _ _ (by omega) (by omega) h2 (KX_put k (by omega) (fun e => by omega) (fun e => by omega))
  have k33 : ∀ (s1 : ST) (t : Int), (t = 0 ∨ t = 1) → (t = 0 → 0 ≤ s1.1 a 0 ∧ s1.1 a 0 < 400) → KX s s1 → K_X0_listOne_33 a s1 t Q := by
    intro s1 t ht h0 k
    have k1 : KX s (ui s1 a 1 t) := KX_put k (by omega) (fun _ e => by omega) (fun e => by omega)
    have e0 : (ui s1 a 1 t).1 a 0 = s1.1 a 0 := ui_ne (by decide)
    have e1 : (ui s1 a 1 t).1 a 1 = t := ui_same
    refine s_X0_listOne_33 ?_
    rw [e1, e0]
    generalize ui s1 a 1 t = s2 at *
    simp (disch := omega) only [ui_cell, ui_ne]
    (repeat' (with_reducible first | refine ⟨?_, ?_⟩ | intro _))
    all_goals first | omega | exact hQ _ k1 | (unfold P_X0_kindNode R32; omega) | skip
    have h0' := h0 (by omega)
    have k2 : KX s (ui (ui s2 a 0 (s1.1 a 0 + 1)) (a + 1) (s1.1 a 0) (s2.1 (a + 5) (s2.1 a 15))) := KX_put (KX_put k1 (by omega) (fun _ _ => by omega) (fun e => by omega)) (by omega) (fun e => by omega) (fun e => by omega)
    refine x_X0_setPart ha k2.1 fun s3 k3 => ?_
    have k4 := k2.tr k3
    (repeat' (with_reducible first | refine ⟨?_, ?_⟩ | intro _))
    all_goals first | omega | exact k155 _ _ _ h0' (by omega) k4 | exact k155 _ _ _ h0' (by omega) (KX_put k4 (by omega) (fun e => by omega) (fun e => by omega))
  have k0 : KX s (ui s a 15 (s.1 a 15 - 1)) := KX_put (.rf h) (by omega) (fun _ e => by omega) (fun e => by omega)
  have ak := (k0.1.ak ha).1.1
  have k28 : K_X0_listOne_28 a (ui s a 15 (s.1 a 15 - 1)) Q := by
    refine s_X0_listOne_28 fun _ _ => ?_
    exact k33 _ 1 (Or.inr rfl) (fun e => by omega) k0
  refine s_X0_listOne fun _ hra => ?_
  have h15 := hra a 15
  unfold R32 at h15
  (repeat' (with_reducible first | refine ⟨?_, ?_⟩ | intro _))
  all_goals first | omega | (unfold R32; omega) | exact k28 | exact k33 _ 0 (Or.inl rfl) (fun _ => by omega) k0
theorem x_X0_list {Q : ST → Prop} (ha : isA a) (h : IX s) (hQ : ∀ s', KX s s' → Q s') : C_X0_list a s Q := by
  have k50 : ∀ (n : Nat) (s1 : ST) (a1 : Int), 8 - a1 ≤ (n : Int) → 0 ≤ a1 → KX s s1 → K_X0_list_50 a s1 a1 Q := by
    intro n
    induction n with
    | zero =>
      intro s1 a1 hn h1 k
      refine s_X0_list_50 ?_
      (repeat' (with_reducible first | refine ⟨?_, ?_⟩ | intro _))
      all_goals first | omega | exact hQ _ k | exact P_root _ _ _
    | succ n ih =>
      intro s1 a1 hn h1 k
      have k95 : ∀ (m : Nat) (s2 : ST) (a2 : Int), 401 - a2 ≤ (m : Int) → 0 ≤ a2 → a1 < 8 → KX s s2 → K_X0_list_95 a s2 a1 a2 Q := by
        intro m
        induction m with
        | zero =>
          intro s2 a2 hm h2 h8 k2
          refine s_X0_list_95 ?_
          (repeat' (with_reducible first | refine ⟨?_, ?_⟩ | intro _))
          all_goals first | omega | exact ih _ _ (by omega) (by omega) k2
        | succ m ihm =>
          intro s2 a2 hm h2 h8 k2
          refine s_X0_list_95 ?_
          (repeat' (with_reducible first | refine ⟨?_, ?_⟩ | intro _))
          all_goals first | omega | exact ih _ _ (by omega) (by omega) k2 | skip
          refine x_X0_listOne ha k2.1 (by omega) fun s3 k3 => ?_
          (repeat' (with_reducible first | refine ⟨?_, ?_⟩ | intro _))
          all_goals first | omega | exact ihm _ _ (by omega) (by omega) h8 (k2.tr k3)
      have k0 : KX s (ui s1 a 15 0) := KX_put k (by omega) (fun _ e => by omega) (fun e => by omega)
      refine s_X0_list_50 ?_
      (repeat' (with_reducible first | refine ⟨?_, ?_⟩ | intro _))
      all_goals first | omega | exact hQ _ k | exact P_root _ _ _ | skip
      exact x_X0_pileUp ha k0.1 fun s3 k3 => k95 401 _ 0 (by omega) (by omega) (by omega) (k0.tr k3)
  have k22 : ∀ (n : Nat) (s1 : ST) (a1 : Int), 40 - a1 ≤ (n : Int) → 0 ≤ a1 → KX s s1 → K_X0_list_22 a s1 a1 Q := by
    intro n
    induction n with
    | zero =>
      intro s1 a1 hn h1 k
      refine s_X0_list_22 ?_
      (repeat' (with_reducible first | refine ⟨?_, ?_⟩ | intro _))
      all_goals first | omega | exact k50 8 _ 0 (by omega) (by omega) k
    | succ n ih =>
      intro s1 a1 hn h1 k
      refine s_X0_list_22 ?_
      (repeat' (with_reducible first | refine ⟨?_, ?_⟩ | intro _))
      all_goals first | omega | exact k50 8 _ 0 (by omega) (by omega) k | skip
      exact ih _ _ (by omega) (by omega) (KX_put (KX_put k (by omega) (fun e => by omega) (fun e => by omega)) (by omega) (fun e => by omega) (fun e => by omega))
  refine s_X0_list fun _ _ => ?_
  exact k22 40 _ 0 (by omega) (by omega) (KX_put (KX_put (KX_put (KX_put (.rf h) (by omega) (fun _ _ => by omega) (fun e => by omega)) (by omega) (fun _ e => by omega) (fun e => by omega)) (by omega) (fun _ e => by omega) (fun e => by omega)) (by omega) (fun _ e => by omega) (fun e => by omega))
end XL
section XJ
variable {s0 s : ST} {a : Nat}
theorem x_X4_join {p q : Int} {Q : ST → Int → Prop} (k : KX s0 s) (hQ : ∀ s' v, KX s0 s' → Q s' v) : C_X4_join s p q Q := c_X4_join k.1.1 fun s' v m h => hQ s' v (k.k m (by decide) (by decide) h)
theorem x_X4_make {p q u : Int} {Q : ST → Int → Prop} (k : KX s0 s) (hQ : ∀ s' v, KX s0 s' → Q s' v) : C_X4_make s p q u Q := c_X4_make k.1.1 fun s' v m h => hQ s' v (k.k m (by decide) (by decide) h)
theorem x_X4_makeOpen {Q : ST → Int → Prop} (k : KX s0 s) (hQ : ∀ s' v, KX s0 s' → Q s' v) : C_X4_makeOpen s Q := c_X4_makeOpen k.1.1 fun s' v m h => hQ s' v (k.k m (by decide) (by decide) h)
theorem x_X4_makeTold {o : Nat} {p : Int} {Q : ST → Int → Prop} (k : KX s0 s) (hQ : ∀ s' v, KX s0 s' → Q s' v) : C_X4_makeTold o s p Q := c_X4_makeTold k.1.1 fun s' v m h => hQ s' v (k.k m (by decide) (by decide) h)
theorem x_X4_hasRing {Q : ST → Int → Prop} (k : KX s0 s) (hQ : ∀ s' v, KX s0 s' → Q s' v) : C_X4_hasRing s Q := c_X4_hasRing k.1.1 fun s' v m h => hQ s' v (k.k m (by decide) (by decide) h)
theorem x_X4_numberAt {p q : Int} {Q : ST → Int → Prop} (k : KX s0 s) (hQ : ∀ s' v, KX s0 s' → Q s' v) : C_X4_numberAt s p q Q := c_X4_numberAt k.1.1 fun s' v m h => hQ s' v (k.k m (by decide) (by decide) h)
theorem x_X4_begin {p : Int} {Q : ST → Prop} (k : KX s0 s) (hQ : ∀ s', KX s0 s' → Q s') : C_X4_begin s p Q := c_X4_begin fun s' m h => hQ s' (k.k m (by decide) (by decide) h)
theorem x_X0_ask {p : Int} {Q : ST → Int → Prop} (k : KX s0 s) (hQ : ∀ s' v, KX s0 s' → Q s' v) : C_X0_ask a s p Q := by
  have PK : ∀ s, 0 ≤ p → p < 400 → P_X0_kindNode s p := fun s _ _ => by unfold P_X0_kindNode R32; omega
  have PB : ∀ s, 0 ≤ p → p < 400 → P_X0_boundNode s p := fun s _ _ => by unfold P_X0_boundNode R32; omega
  refine s_X0_ask ?_
  (repeat' (with_reducible first | refine ⟨?_, ?_⟩ | intro _))
  all_goals first | omega | exact hQ _ _ k | exact P_sort _ _ _ | (unfold P_X0_kindNode R32; omega) | (unfold P_X0_boundNode R32; omega) | skip
  all_goals
    repeat' (with_reducible first | exact hQ _ _ (by assumption) | (refine x_X4_join (by assumption) fun _ _ _ => ?_) | (refine x_X4_make (by assumption) fun _ _ _ => ?_) | (refine x_X4_makeOpen (by assumption) fun _ _ _ => ?_) | (refine x_X4_makeTold (by assumption) fun _ _ _ => ?_) | refine ⟨?_, ?_⟩ | intro _)
end XJ
