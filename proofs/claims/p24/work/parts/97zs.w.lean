/-! THE CLASS: the reader's places -/
def RX (s0 s : ST) : Prop := KX s0 s ∧ PT s ∧ s.1 18 0 ≤ 8 ∧ (0 ≤ s.1 18 2 ∧ s.1 18 2 ≤ 20)
theorem RX_tk {s0 s s' : ST} (k : RX s0 s) (t : TK s s') (p : PT s') : RX s0 s' :=
  ⟨k.1.tr (k.1.1.cells fun c hc => t c (by omega)), p, by rw [t 18 (by decide)]; exact k.2.2.1, by rw [t 18 (by decide)]; exact k.2.2.2⟩
theorem RX_ky {s0 s s' : ST} (k : RX s0 s) (t : KY s s') : RX s0 s' :=
  ⟨k.1.tr t.1, by have p := k.2.1; unfold PT TPO at *; rw [t.2.2.2.1]; exact p, by rw [t.2.1]; exact k.2.2.1, by rw [t.2.2.1]; exact k.2.2.2⟩
section X7P
variable {s0 s : ST}
theorem x_X7_readBound {p : Int} {Q : ST → Prop} (t : TK s0 s) (h : PT s) (hQ : ∀ s', TK s0 s' → PT s' → Q s') : C_X7_readBound s p Q := by
  have k18 : K_X7_readBound_18 s Q := by
    refine s_X7_readBound_18 ?_
    (repeat' (with_reducible first | refine ⟨?_, ?_⟩ | intro _))
    exact x_X7_refuseToken t h hQ
  refine s_X7_readBound ?_
  (repeat' (with_reducible first | refine ⟨?_, ?_⟩ | intro _))
  all_goals first | omega | exact k18 | exact x_X7_readToken t h.1 hQ
theorem x_X7_findTarget {p : Int} {Q : ST → Int → Prop} (k : RX s0 s) (hQ : ∀ s' v, RX s0 s' → Q s' v) : C_X7_findTarget s p Q := by
  have k28 : ∀ (n : Nat) (s1 : ST) (a1 a2 a3 : Int), 48 - a3 ≤ (n : Int) → 0 ≤ a3 → 0 ≤ a1 ∧ a1 < 40 → RX s0 s1 → K_X7_findTarget_28 s1 a1 a2 a3 Q := by
    intro n
    induction n with
    | zero =>
      intro s1 a1 a2 a3 hn h3 h1 k1
      refine s_X7_findTarget_28 ?_
      (repeat' (with_reducible first | refine ⟨?_, ?_⟩ | intro _))
      all_goals first | omega | exact P_word _ _ _ | exact hQ _ _ k1
    | succ n ih =>
      intro s1 a1 a2 a3 hn h3 h1 k1
      refine s_X7_findTarget_28 ?_
      (repeat' (with_reducible first | refine ⟨?_, ?_⟩ | intro _))
      all_goals first | omega | exact P_word _ _ _ | exact hQ _ _ k1 | exact ih _ _ _ _ (by omega) (by omega) h1 k1 | exact hQ _ _ (RX_ky k1 (KY_ui (.rf k1.1.1) (by unfold freeC; omega)))
  refine s_X7_findTarget ?_
  (repeat' (with_reducible first | refine ⟨?_, ?_⟩ | intro _))
  all_goals first | exact hQ _ _ k | skip
  exact y_X9_choicesAt (Or.inr rfl) k.1.1 fun s2 v k2 => k28 48 _ _ _ 0 (by omega) (by omega) (by omega) (RX_ky k k2)
theorem x_X7_readKinds {p : Int} {Q : ST → Prop} (k : RX s0 s) (hQ : ∀ s', RX s0 s' → Q s') : C_X7_readKinds s p Q := by
  have k104 : ∀ s1, RX s0 s1 → K_X7_readKinds_104 s1 Q := by
    intro s1 k1
    refine s_X7_readKinds_104 ?_
    (repeat' (with_reducible first | refine ⟨?_, ?_⟩ | intro _))
    exact x_X7_refuseToken .rf k1.2.1 fun s2 t2 p2 => hQ _ (RX_tk k1 t2 p2)
  have k159 : ∀ s1 a1, RX s0 s1 → (0 ≤ a1 ∧ a1 < 40) → (0 ≤ s1.1 30 a1 ∧ s1.1 30 a1 ≤ 20) → K_X7_readKinds_159 s1 a1 Q := by
    intro s1 a1 k1 h1 h2
    have h3 := k1.2.2.2
    refine s_X7_readKinds_159 ?_
    (repeat' (with_reducible first | refine ⟨?_, ?_⟩ | intro _))
    all_goals first | omega | exact hQ _ (RX_ky k1 (KY_ui (.rf k1.1.1) (by unfold freeC; omega)))
  have k32 : ∀ (n : Nat) (s1 : ST) (a1 a2 a3 : Int), 21 - a3 ≤ (n : Int) → 0 ≤ a3 → (0 ≤ a2 ∧ a2 ≤ 1 + a3) → RX s0 s1 → (0 ≤ a1 ∧ a1 < 40) → (0 ≤ s1.1 30 a1 ∧ s1.1 30 a1 ≤ 20) → K_X7_readKinds_32 s1 a1 a2 a3 Q := by
    intro n
    induction n with
    | zero =>
      intro s1 a1 a2 a3 hn h3 h2 k1 h1 h30
      refine s_X7_readKinds_32 ?_
      (repeat' (with_reducible first | refine ⟨?_, ?_⟩ | intro _))
      all_goals first | omega | exact k159 _ _ k1 h1 h30
    | succ n ih =>
      intro s1 a1 a2 a3 hn h3 h2 k1 h1 h30
      have h18 := k1.2.2.2
      have ⟨_, _, h46⟩ := k1.2.1
      have k69 : ∀ t0, 0 < a2 → a3 ≤ 20 → K_X7_readKinds_69 s1 a1 a2 a3 t0 Q := by
        intro t0 g2 g3
        have hka := ka_r (ui (ui s1 32 (s1.1 18 2) t0) 18 2 (s1.1 18 2 + 1)) t0
        refine s_X7_readKinds_69 ?_
        (repeat' (with_reducible first | refine ⟨?_, ?_⟩ | intro _))
        all_goals first | omega | exact k104 _ k1 | skip
        have kk : s1.1 18 2 < 20 → RX s0 (ui (ui s1 32 (s1.1 18 2) t0) 18 2 (s1.1 18 2 + 1)) := fun hh => ⟨KX.ut (KX.ui k1.1 (by unfold freeC; omega)) (Or.inr (Or.inl rfl)), k1.2.1, k1.2.2.1, by rw [ui_same]; omega⟩
        have k2 := kk (by omega)
        refine x_X7_readToken .rf k2.2.1.1 fun s3 t3 p3 => ?_
        have k3 := RX_tk k2 t3 p3
        (repeat' (with_reducible first | refine ⟨?_, ?_⟩ | intro _))
        all_goals first | omega | skip
        exact ih _ _ _ _ (by omega) (by omega) (by omega) k3 h1 (by rw [t3 30 (by decide)]; exact h30)
      have k68 : 0 < a2 → a3 ≤ 20 → K_X7_readKinds_68 s1 a1 a2 a3 Q := by
        intro g2 g3
        refine s_X7_readKinds_68 ?_
        (repeat' (with_reducible first | refine ⟨?_, ?_⟩ | intro _))
        exact k69 _ g2 g3
      refine s_X7_readKinds_32 ?_
      (repeat' (with_reducible first | refine ⟨?_, ?_⟩ | intro _))
      all_goals first | omega | exact k159 _ _ k1 h1 h30 | exact k68 (by omega) (by omega) | exact k69 _ (by omega) (by omega)
  refine s_X7_readKinds ?_
  (repeat' (with_reducible first | refine ⟨?_, ?_⟩ | intro _))
  all_goals first | omega | exact hQ _ k | skip
  exact k32 21 _ _ _ 0 (by omega) (by omega) (by omega) (RX_ky k (KY_ui (.rf k.1.1) (by unfold freeC; omega))) (by omega) (by rw [ui_same]; exact k.2.2.2)
theorem x_X7_readRest {p : Int} {Q : ST → Prop} (k : RX s0 s) (hQ : ∀ s', RX s0 s' → Q s') : C_X7_readRest s p Q := by
  have k55 : ∀ s1 a1, RX s0 s1 → K_X7_readRest_55 s1 a1 Q := by
    intro s1 a1 k1
    refine s_X7_readRest_55 ?_
    (repeat' (with_reducible first | refine ⟨?_, ?_⟩ | intro _))
    exact x_X7_readBound .rf k1.2.1 fun s2 t2 p2 => hQ _ (RX_tk k1 t2 p2)
  have k41 : ∀ s1 a1 a2, RX s0 s1 → K_X7_readRest_41 s1 a1 a2 Q := by
    intro s1 a1 a2 k1
    refine s_X7_readRest_41 ?_
    (repeat' (with_reducible first | refine ⟨?_, ?_⟩ | intro _))
    refine x_X7_readToken .rf k1.2.1.1 fun s2 t2 p2 => ?_
    have k2 := RX_tk k1 t2 p2
    (repeat' (with_reducible first | refine ⟨?_, ?_⟩ | intro _))
    all_goals first | exact k55 _ _ k2 | exact hQ _ k2 | exact x_X7_readKinds k2 hQ
  refine s_X7_readRest ?_
  (repeat' (with_reducible first | refine ⟨?_, ?_⟩ | intro _))
  all_goals first | omega | exact hQ _ k | exact k41 _ _ _ k | skip
  refine x_X7_findTarget k fun s3 v k3 => ?_
  (repeat' (with_reducible first | refine ⟨?_, ?_⟩ | intro _))
  all_goals first | exact k41 _ _ _ k3 | skip
  exact x_X7_faultIs .rf k3.2.1 fun s4 t4 p4 => hQ _ (RX_tk k3 t4 p4)
theorem x_X7_beginPlace {p : Int} {Q : ST → Int → Prop} (k : RX s0 s) (hp : 0 ≤ p → s.1 48 p ≤ 3) (hQ : ∀ s' v, RX s0 s' → Q s' v) : C_X7_beginPlace s p Q := by
  have h180 : 0 ≤ s.1 18 0 := k.1.1.zx.t0 (Or.inr (Or.inl rfl))
  have h188 := k.2.2.1
  have k56 : K_X7_beginPlace_56 s Q := by
    refine s_X7_beginPlace_56 ?_
    (repeat' (with_reducible first | refine ⟨?_, ?_⟩ | intro _))
    exact x_X7_refuseToken .rf k.2.1 fun s2 t2 p2 => hQ _ _ (RX_tk k t2 p2)
  have k127 : ∀ s1 a2 a4 a5, RX s0 s1 → 0 ≤ a5 ∧ a5 < 40 → a4 ≤ 20 → K_X7_beginPlace_127 s1 a2 a4 a5 Q := by
    intro s1 a2 a4 a5 k1 h5 h4
    refine s_X7_beginPlace_127 ?_
    (repeat' (with_reducible first | refine ⟨?_, ?_⟩ | intro _))
    all_goals first | omega | skip
    refine hQ _ _ ⟨KX.ui (KX.ui (KX.ui (KX_put (KX_put k1.1 (by omega) (fun e => by omega) (fun e => by omega)) (by omega) (fun e => by omega) (fun e => by omega)) (by unfold freeC; omega)) (by unfold freeC; omega)) (by unfold freeC; omega), k1.2⟩
  have k81 : ∀ a2 a3 a4 t1 t2, (a3 = 0 ∨ a3 = 1 ∧ 0 ≤ p ∧ p < 40) → a4 ≤ 20 → K_X7_beginPlace_81 s p a2 a3 a4 t1 t2 Q := by
    intro a2 a3 a4 t1 t2 h3 h4
    refine s_X7_beginPlace_81 ?_
    intro hra
    have r48 := hra 48 p
    (repeat' (with_reducible first | refine ⟨?_, ?_⟩ | intro _))
    all_goals first | omega | skip
    refine y_X9_add (Or.inr (Or.inl rfl)) k.1.1 fun s2 v2 y2 hv => ?_
    have k2 := RX_ky k y2
    have e48 : s2.1 48 p = s.1 48 p := by rw [y2.2.2.2.2]
    (repeat' (with_reducible first | refine ⟨?_, ?_⟩ | intro _))
    all_goals first | omega | exact k127 _ _ _ _ k2 (by omega) h4 | skip
    all_goals exact x_X7_refuseToken .rf k2.2.1 fun s3 t3 p3 => hQ _ _ (RX_tk k2 t3 p3)
  have k30 : ∀ a2 t0, K_X7_beginPlace_30 s p a2 (F_X9_has 18 s p) t0 Q := by
    intro a2 t0
    have hh : F_X9_has 18 s p = 0 ∨ F_X9_has 18 s p = 1 ∧ 0 ≤ p ∧ p < 40 := by
      unfold F_X9_has
      split
      · exact Or.inl rfl
      · split
        · exact Or.inl rfl
        · split
          · exact Or.inl rfl
          · exact Or.inr ⟨rfl, by omega, by omega⟩
    refine s_X7_beginPlace_30 ?_
    (repeat' (with_reducible first | refine ⟨?_, ?_⟩ | intro _))
    all_goals first | omega | exact k56 | exact k81 _ _ _ _ _ hh (by omega)
  have h49 := k.1.1.zx.2 p
  refine s_X7_beginPlace ?_
  intro hra
  have r49 := hra 49 p
  (repeat' (with_reducible first | refine ⟨?_, ?_⟩ | intro _))
  all_goals first | omega | exact k30 _ _
theorem x_X7_nextWaiting {p : Int} {Q : ST → Int → Prop} (k : RX s0 s) (hQ : ∀ s' v, RX s0 s' → (v = -1 ∨ s'.1 48 v ≤ 3) → Q s' v) : C_X7_nextWaiting s p Q := by
  have k73 : ∀ s1 a2 t0, RX s0 s1 → s1.1 48 a2 ≤ 3 → K_X7_nextWaiting_73 s1 a2 t0 Q := by
    intro s1 a2 t0 k1 h1
    refine s_X7_nextWaiting_73 ?_
    (repeat' (with_reducible first | refine ⟨?_, ?_⟩ | intro _))
    · exact hQ _ _ k1 (Or.inl rfl)
    · exact hQ _ _ k1 (Or.inr h1)
  have k68 : ∀ s1 a2, RX s0 s1 → s1.1 48 a2 ≤ 3 → K_X7_nextWaiting_68 s1 a2 Q := by
    intro s1 a2 k1 h1
    refine s_X7_nextWaiting_68 ?_
    (repeat' (with_reducible first | refine ⟨?_, ?_⟩ | intro _))
    exact k73 _ _ _ k1 h1
  have k4 : ∀ (n : Nat) (s1 : ST) (a2 a3 : Int), 41 - a3 ≤ (n : Int) → 0 ≤ a3 → RX s0 s1 → K_X7_nextWaiting_4 s1 a2 a3 Q := by
    intro n
    induction n with
    | zero =>
      intro s1 a2 a3 hn h3 k1
      refine s_X7_nextWaiting_4 ?_
      (repeat' (with_reducible first | refine ⟨?_, ?_⟩ | intro _))
      all_goals first | omega | exact P_arity _ _ _ | exact P_parent _ _ _ | exact hQ _ _ k1 (Or.inl rfl)
    | succ n ih =>
      intro s1 a2 a3 hn h3 k1
      have har := arity_r s1 18 a2
      refine s_X7_nextWaiting_4 ?_
      (repeat' (with_reducible first | refine ⟨?_, ?_⟩ | intro _))
      all_goals first | omega | exact P_arity _ _ _ | exact P_parent _ _ _ | exact hQ _ _ k1 (Or.inl rfl) | exact ih _ _ _ (by omega) (by omega) k1 | exact k68 _ _ k1 (by omega) | skip
      refine x_X7_readIn .rf k1.2.1 fun s2 v2 t2 p2 => ?_
      have k2 := RX_tk k1 t2 p2
      have e48 : s2.1 48 a2 = s1.1 48 a2 := by rw [t2 48 (by decide)]
      (repeat' (with_reducible first | refine ⟨?_, ?_⟩ | intro _))
      all_goals first | exact k73 _ _ _ k2 (by omega) | exact k68 _ _ k2 (by omega)
  refine s_X7_nextWaiting ?_
  (repeat' (with_reducible first | refine ⟨?_, ?_⟩ | intro _))
  exact k4 41 _ _ 0 (by omega) (by omega) k
theorem x_X7_readExpression {Q : ST → Prop} (k : RX s0 s) (hQ : ∀ s', RX s0 s' → Q s') : C_X7_readExpression s Q := by
  have k17 : ∀ (n : Nat) (s1 : ST) (a1 a2 a3 : Int), 41 - a3 ≤ (n : Int) → 0 ≤ a3 → (a1 = -1 ∨ s1.1 48 a1 ≤ 3) → RX s0 s1 → K_X7_readExpression_17 s1 a1 a2 a3 Q := by
    intro n
    induction n with
    | zero =>
      intro s1 a1 a2 a3 hn h3 h1 k1
      refine s_X7_readExpression_17 ?_
      (repeat' (with_reducible first | refine ⟨?_, ?_⟩ | intro _))
      all_goals first | omega | exact hQ _ k1
    | succ n ih =>
      intro s1 a1 a2 a3 hn h3 h1 k1
      have k57 : ∀ s2 t0, RX s0 s2 → (t0 = -1 ∨ s2.1 48 t0 ≤ 3) → a3 ≤ 40 → K_X7_readExpression_57 s2 a3 t0 Q := by
        intro s2 t0 k2 h0 h40
        refine s_X7_readExpression_57 ?_
        (repeat' (with_reducible first | refine ⟨?_, ?_⟩ | intro _))
        all_goals first | omega | exact ih _ _ _ _ (by omega) (by omega) h0 k2
      refine s_X7_readExpression_17 ?_
      (repeat' (with_reducible first | refine ⟨?_, ?_⟩ | intro _))
      all_goals first | omega | exact hQ _ k1 | skip
      refine x_X7_beginPlace k1 (fun h0 => by omega) fun s2 v2 k2 => x_X7_readRest k2 fun s3 k3 => ?_
      (repeat' (with_reducible first | refine ⟨?_, ?_⟩ | intro _))
      all_goals first | exact k57 _ _ k3 (Or.inl rfl) (by omega) | skip
      exact x_X7_nextWaiting k3 fun s4 v4 k4 h4 => k57 _ _ k4 h4 (by omega)
  refine s_X7_readExpression ?_
  (repeat' (with_reducible first | refine ⟨?_, ?_⟩ | intro _))
  all_goals exact k17 41 _ _ _ 0 (by omega) (by omega) (Or.inl rfl) k
theorem x_X7_readDef {Q : ST → Prop} (k : RX s0 s) (hQ : ∀ s', RX s0 s' → Q s') : C_X7_readDef s Q := by
  have k30 : ∀ s1, RX s0 s1 → K_X7_readDef_30 s1 Q := by
    intro s1 k1
    refine s_X7_readDef_30 ?_
    (repeat' (with_reducible first | refine ⟨?_, ?_⟩ | intro _))
    exact x_X7_refuseToken .rf k1.2.1 fun s2 t2 p2 => hQ _ (RX_tk k1 t2 p2)
  have k99 : ∀ s1, RX s0 s1 → 0 ≤ s1.1 18 0 ∧ s1.1 18 0 < 8 → K_X7_readDef_99 s1 Q := by
    intro s1 k1 h1
    have k2 : RX s0 (ui (uj s1 19 (s1.1 18 0) (s1.2 46 7)) 18 0 (s1.1 18 0 + 1)) := ⟨KX.ut (k1.1.uj) (Or.inr (Or.inl rfl)) (fun _ => by omega), k1.2.1, by rw [ui_same]; omega, k1.2.2.2⟩
    refine s_X7_readDef_99 ?_
    (repeat' (with_reducible first | refine ⟨?_, ?_⟩ | intro _))
    all_goals first | omega | skip
    exact x_X7_readToken .rf k2.2.1.1 fun s3 t3 p3 => hQ _ (RX_tk k2 t3 p3)
  have k53 : ∀ (n : Nat) (s1 : ST) (a1 : Int), 8 - a1 ≤ (n : Int) → 0 ≤ a1 → RX s0 s1 → 0 ≤ s1.1 18 0 ∧ s1.1 18 0 < 8 → K_X7_readDef_53 s1 a1 Q := by
    intro n
    induction n with
    | zero =>
      intro s1 a1 hn h1 k1 h18
      refine s_X7_readDef_53 ?_
      (repeat' (with_reducible first | refine ⟨?_, ?_⟩ | intro _))
      all_goals first | omega | exact k99 _ k1 h18
    | succ n ih =>
      intro s1 a1 hn h1 k1 h18
      refine s_X7_readDef_53 ?_
      (repeat' (with_reducible first | refine ⟨?_, ?_⟩ | intro _))
      all_goals first | omega | exact k99 _ k1 h18 | exact ih _ _ (by omega) (by omega) k1 h18 | skip
      exact x_X7_faultIs .rf k1.2.1 fun s3 t3 p3 => hQ _ (RX_tk k1 t3 p3)
  refine s_X7_readDef ?_
  (repeat' (with_reducible first | refine ⟨?_, ?_⟩ | intro _))
  all_goals first | exact k30 _ k | skip
  refine x_X7_readToken .rf k.2.1.1 fun s2 t2 p2 => ?_
  have k2 := RX_tk k t2 p2
  have e18 : s2.1 18 0 = s.1 18 0 := by rw [t2 18 (by decide)]
  (repeat' (with_reducible first | refine ⟨?_, ?_⟩ | intro _))
  · exact k53 8 _ 0 (by omega) (by omega) k2 (by omega)
  all_goals exact x_X7_refuseToken .rf k2.2.1 fun s4 t4 p4 => hQ _ (RX_tk k2 t4 p4)
theorem x_X7_readText {p : Int} {Q : ST → Int → Prop} (k : KX s0 s) (hQ : ∀ s' v, KX s0 s' → Q s' v) : C_X7_readText s p Q := by
  have k71 : ∀ s1, RX s0 s1 → K_X7_readText_71 s1 Q := by
    intro s1 k1
    refine s_X7_readText_71 ?_
    (repeat' (with_reducible first | refine ⟨?_, ?_⟩ | intro _))
    all_goals exact hQ _ _ k1.1
  have k33 : ∀ (n : Nat) (s1 : ST) (a2 : Int), 9 - a2 ≤ (n : Int) → 0 ≤ a2 → RX s0 s1 → K_X7_readText_33 s1 a2 Q := by
    intro n
    induction n with
    | zero =>
      intro s1 a2 hn h2 k1
      refine s_X7_readText_33 ?_
      (repeat' (with_reducible first | refine ⟨?_, ?_⟩ | intro _))
      all_goals first | omega | exact k71 _ k1
    | succ n ih =>
      intro s1 a2 hn h2 k1
      refine s_X7_readText_33 ?_
      (repeat' (with_reducible first | refine ⟨?_, ?_⟩ | intro _))
      all_goals first | omega | exact k71 _ k1 | skip
      refine x_X7_readDef k1 fun s2 k2 => x_X7_readExpression k2 fun s3 k3 => x_X7_readSign .rf k3.2.1 fun s4 t4 p4 => ?_
      have k4 := RX_tk k3 t4 p4
      (repeat' (with_reducible first | refine ⟨?_, ?_⟩ | intro _))
      all_goals first | omega | exact ih _ _ (by omega) (by omega) k4
  have f18 : isT 18 := Or.inr (Or.inl rfl)
  refine s_X7_readText ?_
  (repeat' (with_reducible first | refine ⟨?_, ?_⟩ | intro _))
  refine s_X9_clear fun _ _ => ?_
  have k1 : KX s0 (ui (ui (ui (ui s 46 3 p) 18 0 0) 18 1 0) 18 2 0) := ((KX_put k (by omega) (fun e => by omega) (fun e => by omega)).ut f18).ut f18 |>.ut f18
  have k2 : KX s0 (ui (ui (ui (ui (ui (ui (ui s 46 3 p) 18 0 0) 18 1 0) 18 2 0) 46 0 0) 46 1 (-1)) 46 4 0) := KX_put (KX_put (KX_put k1 (by omega) (fun e => by omega) (fun e => by omega)) (by omega) (fun e => by omega) (fun e => by omega)) (by omega) (fun e => by omega) (fun e => by omega)
  refine x_X7_readToken (s0 := ui (ui (ui (ui (ui (ui (ui s 46 3 p) 18 0 0) 18 1 0) 18 2 0) 46 0 0) 46 1 (-1)) 46 4 0) .rf ⟨by rw [ui_same]; omega, by rw [ui_same]; omega⟩ fun s3 t3 p3 => ?_
  have e0 : s3.1 18 0 = 0 := by rw [t3 18 (by decide)]; rfl
  have e2 : s3.1 18 2 = 0 := by rw [t3 18 (by decide)]; rfl
  exact k33 9 _ 0 (by omega) (by omega) ⟨k2.tr (k2.1.cells fun c hc => t3 c (by omega)), p3, by omega, by omega⟩
end X7P
