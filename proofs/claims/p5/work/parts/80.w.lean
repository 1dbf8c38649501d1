/-! THE CLASS: Kinds. Every method returns; the links stay within the nodes. -/
def KC : List Nat := [38, 39, 40, 41, 42, 43, 44, 45]
def KI (s : ST) : Prop := (0 ≤ s.1 38 2 ∧ s.1 38 2 ≤ 5602) ∧ ∀ i, 0 ≤ i → i < s.1 38 2 → 0 ≤ s.1 39 i ∧ s.1 39 i < s.1 38 2
theorem KI.keep {fs : List (Nat × Int)} {cs : List Nat} {s s' : ST} (h : KI s) (hm : md fs cs s s') (h1 : decide (((38 : Nat), (2 : Int)) ∉ fs) = true) (h2 : decide (38 ∉ cs) = true) (h3 : (fs.all fun q => decide (q.1 ≠ 39)) = true) (h4 : decide (39 ∉ cs) = true) : KI s' := by
  unfold KI
  rw [hm.f 38 2 h1 h2]
  exact ⟨h.1, fun i h0 h1 => by rw [hm.c 39 h3 h4]; exact h.2 i h0 h1⟩
theorem KI.set {s : ST} (h : KI s) {x y : Int} (hx : 0 ≤ x ∧ x < s.1 38 2) (hy : 0 ≤ y ∧ y < s.1 38 2) : KI (ui s 39 x y) := by
  unfold KI
  rw [ui_cell (by decide)]
  refine ⟨h.1, fun i h0 h1 => ?_⟩
  by_cases e : i = x
  · rw [e, ui_same]; exact hy
  · rw [ui_ne e]; exact h.2 i h0 h1
theorem c_X4_make {s : ST} {p q u : Int} {Q : ST → Int → Prop} (h : KI s) (hQ : ∀ s' v, md [(38, 2)] [39, 40, 41, 42] s s' → KI s' → Q s' v) : C_X4_make s p q u Q := by
  have h1 := h.1
  refine s_X4_make ?_
  (repeat' (with_reducible first | refine ⟨?_, ?_⟩ | intro _))
  all_goals first | omega | skip
  · refine hQ _ _ (by repeat' (first | exact md.rf | assumption | refine md.ui ?_ ?_ | refine md.uj ?_ ?_ | exact Or.inr (by decide) | exact Or.inl (by decide))) ?_
    unfold KI
    simp (disch := decide) only [ui_cell, ui_same]
    refine ⟨by omega, fun i h2 h3 => ?_⟩
    by_cases e : i = s.1 38 2
    · rw [e, ui_same]; omega
    · rw [ui_ne e, ui_cell (by decide)]
      have := h.2 i h2 (by omega)
      omega
  · exact hQ _ _ md.rf h
theorem k_begin {p : Int} {Q : ST → Prop} : ∀ (n : Nat) (s : ST) (j : Int), 5602 - j ≤ (n : Int) → 0 ≤ j → KI s → (∀ s', md [(38, 2)] [39, 40, 41, 42] s s' → KI s' → K_X4_begin_33 s' Q) → K_X4_begin_7 s p j Q := by
  intro n
  induction n with
  | zero =>
    intro s j hn hj h hQ
    refine s_X4_begin_7 ?_
    (repeat' (with_reducible first | refine ⟨?_, ?_⟩ | intro _))
    all_goals first | exact hQ s md.rf h | omega
  | succ n ih =>
    intro s j hn hj h hQ
    refine s_X4_begin_7 ?_
    (repeat' (with_reducible first | refine ⟨?_, ?_⟩ | intro _))
    all_goals first | exact hQ s md.rf h | skip
    refine c_X4_make h fun s' v hm hk => ?_
    (repeat' (with_reducible first | refine ⟨?_, ?_⟩ | intro _))
    all_goals first | omega | skip
    exact ih _ _ (by omega) (by omega) hk (fun s2 hm2 hk2 => hQ s2 (hm.tr hm2) hk2)
theorem c_X4_begin {s : ST} {p : Int} {Q : ST → Prop} (hQ : ∀ s', md [] KC s s' → KI s' → Q s') : C_X4_begin s p Q := by
  refine s_X4_begin fun _ _ => ?_
  have h33 : ∀ s1, md [] KC s s1 → KI s1 → K_X4_begin_33 s1 Q := by
    intro s1 hm hk
    refine s_X4_begin_33 fun _ => c_X4_make hk fun s2 v hm2 hk2 => ?_
    refine c_X4_make (hk2.keep (fs := [(38, 0)]) (cs := []) (by repeat' (first | exact md.rf | assumption | refine md.ui ?_ ?_ | refine md.uj ?_ ?_ | exact Or.inr (by decide) | exact Or.inl (by decide))) (by decide) (by decide) (by decide) (by decide)) fun s3 v3 hm3 hk3 => ?_
    refine hQ _ ?_ (hk3.keep (fs := [(38, 1)]) (cs := []) (by repeat' (first | exact md.rf | assumption | refine md.ui ?_ ?_ | refine md.uj ?_ ?_ | exact Or.inr (by decide) | exact Or.inl (by decide))) (by decide) (by decide) (by decide) (by decide))
    exact ((hm.tr (hm2.mono (by decide) (by decide))).tr ((md.rf.ui (Or.inr (by decide))).tr (hm3.mono (by decide) (by decide)))).tr (md.rf.ui (Or.inr (by decide)))
  have k0 : KI (ui s 38 2 0) := by
    unfold KI
    rw [ui_same]
    exact ⟨by omega, fun i h0 h1 => by omega⟩
  exact k_begin 5602 _ 0 (by omega) (by omega) k0 (fun s' hm hk => h33 s' ((md.rf.ui (Or.inr (by decide))).tr (hm.mono (by decide) (by decide))) hk)
theorem k_chief {Q : ST → Int → Prop} : ∀ (n : Nat) (s : ST) (a j : Int), 5602 - j ≤ (n : Int) → 0 ≤ j → KI s → 0 ≤ a → a < s.1 38 2 → (∀ s' v, md [] [39] s s' → KI s' → 0 ≤ v → v < s.1 38 2 → Q s' v) → K_X4_chief_25 s a j Q := by
  intro n
  induction n with
  | zero =>
    intro s a j hn hj h h0 h1 hQ
    refine s_X4_chief_25 ?_
    (repeat' (with_reducible first | refine ⟨?_, ?_⟩ | intro _))
    all_goals first | exact hQ s a md.rf h h0 h1 | omega
  | succ n ih =>
    intro s a j hn hj h h0 h1 hQ
    have hc := h.1
    have ha := h.2 a h0 h1
    have hb := h.2 (s.1 39 a) ha.1 ha.2
    refine s_X4_chief_25 ?_
    (repeat' (with_reducible first | refine ⟨?_, ?_⟩ | intro _))
    all_goals first | exact hQ s a md.rf h h0 h1 | omega | skip
    have hk := h.set (x := a) (y := s.1 39 (s.1 39 a)) ⟨h0, h1⟩ hb
    have e38 : (ui s 39 a (s.1 39 (s.1 39 a))).1 38 2 = s.1 38 2 := ui_cell (by decide)
    refine ih _ _ _ (by omega) (by omega) hk (by rw [ui_same]; omega) (by rw [ui_same, e38]; omega) (fun s' v hm hk' h2 h3 => hQ s' v ((md.rf.ui (Or.inr (by decide))).tr hm) hk' h2 (by rw [← e38]; exact h3))
theorem c_X4_chief {s : ST} {p : Int} {Q : ST → Int → Prop} (h : KI s) (hQ : ∀ s' v, md [] [39] s s' → KI s' → (v = -1 ∨ (0 ≤ v ∧ v < s.1 38 2)) → Q s' v) : C_X4_chief s p Q := by
  refine s_X4_chief ?_
  (repeat' (with_reducible first | refine ⟨?_, ?_⟩ | intro _))
  all_goals first | exact hQ s (-1) md.rf h (Or.inl rfl) | skip
  exact k_chief 5602 s p 0 (by omega) (by omega) h (by omega) (by omega) (fun s' v hm hk h2 h3 => hQ s' v hm hk (Or.inr ⟨h2, h3⟩))
theorem ka_r (s : ST) (x : Int) : 0 ≤ F_X10_kindArity s x ∧ F_X10_kindArity s x ≤ 2 := by
  unfold F_X10_kindArity
  by_cases h0 : x < 0
  · rw [if_pos h0]; omega
  · rw [if_neg h0]
    by_cases h1 : x < 6
    · rw [if_neg (by omega)]
      have : x = 0 ∨ x = 1 ∨ x = 2 ∨ x = 3 ∨ x = 4 ∨ x = 5 := by omega
      rcases this with rfl | rfl | rfl | rfl | rfl | rfl <;> decide
    · rw [if_pos (by omega)]; omega
theorem c_X4_pileParts {s : ST} {p q u : Int} {Q : ST → Int → Prop} (hp : 0 ≤ p ∧ p < 5602) (hq : 0 ≤ q ∧ q < 5602) (hu : 0 ≤ u ∧ u ≤ 5604) (hQ : ∀ s' v, md [] [44, 45] s s' → (0 ≤ v ∧ v ≤ 5604) → Q s' v) : C_X4_pileParts s p q u Q := by
  have hk := ka_r s (s.1 40 p)
  have key : ∀ s1, md [] [44, 45] s s1 → u + 2 ≤ 5604 → K_X4_pileParts_57 s1 p q u (F_X10_kindArity s (s.1 40 p)) Q := by
    intro s1 hm hu2
    refine s_X4_pileParts_57 ?_
    (repeat' (with_reducible first | refine ⟨?_, ?_⟩ | intro _))
    all_goals first | omega | skip
    · exact hQ _ _ hm (by omega)
    · exact hQ _ _ ((hm.ui (Or.inr (by decide))).ui (Or.inr (by decide))) (by omega)
  refine s_X4_pileParts ?_
  (repeat' (with_reducible first | refine ⟨?_, ?_⟩ | intro _))
  all_goals first | omega | skip
  all_goals first | exact key _ md.rf (by omega) | exact key _ ((md.rf.ui (Or.inr (by decide))).ui (Or.inr (by decide))) (by omega) | exact hQ _ _ md.rf (by omega) | skip
theorem KI.k3 {s s' : ST} (h : KI s) (hm : md [] [44, 45] s s') : KI s' := h.keep hm (by decide) (by decide) (by decide) (by decide)
theorem k_join {Q : ST → Int → Prop} : ∀ (n : Nat) (s : ST) (top j : Int), 1000000 - j ≤ (n : Int) → 0 ≤ j → KI s → (∀ s' v, md [] [39, 44, 45] s s' → KI s' → Q s' v) → K_X4_join_19 s top j Q := by
  intro n
  induction n with
  | zero =>
    intro s top j hn hj h hQ
    refine s_X4_join_19 ?_
    (repeat' (with_reducible first | refine ⟨?_, ?_⟩ | intro _))
    all_goals first | exact hQ s _ md.rf h | omega
  | succ n ih =>
    intro s top j hn hj h hQ
    have hc := h.1
    refine s_X4_join_19 ?_
    (repeat' (with_reducible first | refine ⟨?_, ?_⟩ | intro _))
    all_goals first | exact hQ s _ md.rf h | omega | skip
    refine c_X4_chief h fun s3 v3 m3 h3 b3 => c_X4_chief h3 fun s4 v4 m4 h4 b4 => ?_
    have e3 := m3.f 38 2 (by decide) (by decide)
    have e4 := m4.f 38 2 (by decide) (by decide)
    rw [e3] at b4
    have mm : md [] [39, 44, 45] s s4 := (m3.mono (by decide) (by decide)).tr (m4.mono (by decide) (by decide))
    have go : ∀ s9 t, md [] [39, 44, 45] s s9 → KI s9 → K_X4_join_19 s9 t (j + 1) Q := fun s9 t m9 h9 => ih s9 t (j + 1) (by omega) (by omega) h9 (fun s' v m' h' => hQ s' v (m9.tr m') h')
    (repeat' (with_reducible first | refine ⟨?_, ?_⟩ | intro _))
    all_goals first | exact go _ _ mm h4 | exact hQ _ _ mm h4 | omega | skip
    · refine c_X4_pileParts (by omega) (by omega) (by omega) fun s9 v9 m9 _ => ?_
      (repeat' (with_reducible first | refine ⟨?_, ?_⟩ | intro _))
      all_goals first | omega | skip
      refine go _ _ ((mm.ui (Or.inr (by decide))).tr (m9.mono (by decide) (by decide))) (KI.k3 (h4.set ?_ ?_) m9) <;> omega
    · refine go _ _ (mm.ui (Or.inr (by decide))) (h4.set ?_ ?_) <;> omega
    · refine go _ _ (mm.ui (Or.inr (by decide))) (h4.set ?_ ?_) <;> omega
theorem c_X4_join {s : ST} {p q : Int} {Q : ST → Int → Prop} (h : KI s) (hQ : ∀ s' v, md [] [39, 44, 45] s s' → KI s' → Q s' v) : C_X4_join s p q Q := by
  refine s_X4_join ?_
  (repeat' (with_reducible first | refine ⟨?_, ?_⟩ | intro _))
  all_goals first | omega | skip
  exact k_join 1000000 _ 1 0 (by omega) (by omega) (KI.k3 h (by repeat' (first | exact md.rf | assumption | refine md.ui ?_ ?_ | refine md.uj ?_ ?_ | exact Or.inr (by decide) | exact Or.inl (by decide)))) (fun s' v m' h' => hQ s' v (md.tr (by repeat' (first | exact md.rf | assumption | refine md.ui ?_ ?_ | refine md.uj ?_ ?_ | exact Or.inr (by decide) | exact Or.inl (by decide))) m') h')
theorem c_X4_countPart {s : ST} {p : Int} {Q : ST → Prop} (h : KI s) (hQ : ∀ s', md [] [39, 43] s s' → KI s' → Q s') : C_X4_countPart s p Q := by
  have hc := h.1
  refine s_X4_countPart fun _ _ => c_X4_chief h fun s1 v1 m1 h1 b1 => ?_
  (repeat' (with_reducible first | refine ⟨?_, ?_⟩ | intro _))
  all_goals first | omega | skip
  · exact hQ _ (m1.mono (by decide) (by decide)) h1
  · exact hQ _ (md.ui (m1.mono (by decide) (by decide)) (Or.inr (by decide))) (h1.keep (fs := []) (cs := [43]) (by repeat' (first | exact md.rf | assumption | refine md.ui ?_ ?_ | refine md.uj ?_ ?_ | exact Or.inr (by decide) | exact Or.inl (by decide))) (by decide) (by decide) (by decide) (by decide))
theorem c_X4_takePart {s : ST} {p q : Int} {Q : ST → Int → Prop} (h : KI s) (hq : 0 ≤ q ∧ q ≤ 5604) (hp : ∀ i, 0 ≤ i → i < q → 0 ≤ s.1 44 i ∧ s.1 44 i < s.1 38 2)
    (hQ : ∀ s' v, md [] [39, 43, 44] s s' → KI s' → (q ≤ v ∧ v ≤ 5604) → (∀ i, 0 ≤ i → i < v → 0 ≤ s'.1 44 i ∧ s'.1 44 i < s.1 38 2) → Q s' v) : C_X4_takePart s p q Q := by
  have hc := h.1
  refine s_X4_takePart fun _ _ _ => c_X4_chief h fun s1 v1 m1 h1 b1 => ?_
  have e44 := m1.c 44 (by decide) (by decide)
  have e38 := m1.f 38 2 (by decide) (by decide)
  have m2 : md [] [39, 43, 44] s s1 := m1.mono (by decide) (by decide)
  have k2 : ∀ v, KI (ui s1 43 v1 v) := fun v => h1.keep (fs := []) (cs := [43]) (by repeat' (first | exact md.rf | assumption | refine md.ui ?_ ?_ | refine md.uj ?_ ?_ | exact Or.inr (by decide) | exact Or.inl (by decide))) (by decide) (by decide) (by decide) (by decide)
  have hp2 : ∀ v i, 0 ≤ i → i < q → 0 ≤ (ui s1 43 v1 v).1 44 i ∧ (ui s1 43 v1 v).1 44 i < s.1 38 2 := fun v i h2 h3 => by rw [ui_cell (by decide), e44]; exact hp i h2 h3
  (repeat' (with_reducible first | refine ⟨?_, ?_⟩ | intro _))
  all_goals first | omega | exact hQ _ _ (m2.ui (Or.inr (by decide))) (k2 _) (by omega) (hp2 _) | skip
  · refine hQ _ _ ((m2.ui (Or.inr (by decide))).ui (Or.inr (by decide))) ((k2 _).keep (fs := []) (cs := [44]) (by repeat' (first | exact md.rf | assumption | refine md.ui ?_ ?_ | refine md.uj ?_ ?_ | exact Or.inr (by decide) | exact Or.inl (by decide))) (by decide) (by decide) (by decide) (by decide)) (by omega) (fun i h2 h3 => ?_)
    by_cases e : i = q
    · rw [e, ui_same]; omega
    · rw [ui_ne e]; exact hp2 _ i h2 (by omega)
  · exact hQ _ _ m2 h1 (by omega) (fun i h2 h3 => by rw [e44]; exact hp i h2 h3)
def PV8 (s : ST) (t : Int) : Prop := ∀ i, 0 ≤ i → i < t → 0 ≤ s.1 44 i ∧ s.1 44 i < s.1 38 2
theorem k_ring4 {a : Int} {Q : ST → Int → Prop} : ∀ (n : Nat) (s : ST) (t j : Int), 5602 - j ≤ (n : Int) → 0 ≤ j → (0 ≤ t ∧ t ≤ 5604) → PV8 s t → KI s → (∀ s' v, md [] [39, 43, 44] s s' → KI s' → Q s' v) → K_X4_hasRing_144 s a t j Q := by
  intro n
  induction n with
  | zero =>
    intro s t j hn hj ht hp h hQ
    refine s_X4_hasRing_144 ?_
    (repeat' (with_reducible first | refine ⟨?_, ?_⟩ | intro _))
    all_goals first | omega | (refine s_X4_hasRing_196 ?_; (repeat' (with_reducible first | refine ⟨?_, ?_⟩ | intro _)); all_goals exact hQ _ _ md.rf h) | skip
  | succ n ih =>
    intro s t j hn hj ht hp h hQ
    have hc := h.1
    refine s_X4_hasRing_144 ?_
    (repeat' (with_reducible first | refine ⟨?_, ?_⟩ | intro _))
    all_goals first | omega | (refine s_X4_hasRing_196 ?_; (repeat' (with_reducible first | refine ⟨?_, ?_⟩ | intro _)); all_goals exact hQ _ _ md.rf h) | skip
    · have := hp j hj (by omega); omega
    · have := hp j hj (by omega); omega
    · refine c_X4_takePart h ht hp fun s3 v3 m3 h3 b3 p3 => ?_
      have e3 := m3.f 38 2 (by decide) (by decide)
      have := p3 j hj (by omega)
      (repeat' (with_reducible first | refine ⟨?_, ?_⟩ | intro _))
      all_goals first | omega | skip
      refine c_X4_takePart h3 (by omega) (fun i h0 h1 => by rw [e3]; exact p3 i h0 h1) fun s5 v5 m5 h5 b5 p5 => ?_
      have e5 := m5.f 38 2 (by decide) (by decide)
      (repeat' (with_reducible first | refine ⟨?_, ?_⟩ | intro _))
      all_goals first | omega | skip
      exact ih s5 v5 (j + 1) (by omega) (by omega) (by omega) (fun i h0 h1 => by rw [e5]; exact p5 i h0 h1) h5 (fun s' v m' h' => hQ s' v ((m3.tr m5).tr m') h')
theorem k_ring3 {a : Int} {Q : ST → Int → Prop} : ∀ (n : Nat) (s : ST) (t j : Int), 5602 - j ≤ (n : Int) → j ≤ 5602 → (0 ≤ t ∧ t ≤ j) → PV8 s t → KI s → (∀ s' v, md [] [39, 43, 44] s s' → KI s' → Q s' v) → K_X4_hasRing_92 s a t j Q := by
  intro n
  induction n with
  | zero =>
    intro s t j hn hj ht hp h hQ
    refine s_X4_hasRing_92 ?_
    (repeat' (with_reducible first | refine ⟨?_, ?_⟩ | intro _))
    all_goals first | omega | exact k_ring4 5602 s t 0 (by omega) (by omega) (by omega) hp h hQ | skip
  | succ n ih =>
    intro s t j hn hj ht hp h hQ
    have hc := h.1
    refine s_X4_hasRing_92 ?_
    (repeat' (with_reducible first | refine ⟨?_, ?_⟩ | intro _))
    all_goals first | omega | exact k_ring4 5602 s t 0 (by omega) (by omega) (by omega) hp h hQ | exact ih s t (j + 1) (by omega) (by omega) (by omega) hp h hQ | skip
    refine ih _ (t + 1) (j + 1) (by omega) (by omega) (by omega) (fun i h0 h1 => ?_) (h.keep (fs := []) (cs := [44]) (by repeat' (first | exact md.rf | assumption | refine md.ui ?_ ?_ | refine md.uj ?_ ?_ | exact Or.inr (by decide) | exact Or.inl (by decide))) (by decide) (by decide) (by decide) (by decide)) (fun s' v m' h' => hQ s' v (md.tr (by repeat' (first | exact md.rf | assumption | refine md.ui ?_ ?_ | refine md.uj ?_ ?_ | exact Or.inr (by decide) | exact Or.inl (by decide))) m') h')
    rw [ui_cell (a := 38) (by decide)]
    by_cases e : i = t
    · rw [e, ui_same]; omega
    · rw [ui_ne e]; exact hp i h0 (by omega)
theorem k_ring2 {Q : ST → Int → Prop} : ∀ (n : Nat) (s : ST) (a j : Int), 5602 - j ≤ (n : Int) → j ≤ 5602 → (0 ≤ a ∧ a ≤ j) → KI s → (∀ s' v, md [] [39, 43, 44] s s' → KI s' → Q s' v) → K_X4_hasRing_34 s a j Q := by
  intro n
  induction n with
  | zero =>
    intro s a j hn hj ha h hQ
    refine s_X4_hasRing_34 ?_
    (repeat' (with_reducible first | refine ⟨?_, ?_⟩ | intro _))
    all_goals first | omega | exact k_ring3 5602 s 0 0 (by omega) (by omega) (by omega) (fun i h0 h1 => by omega) h hQ | skip
  | succ n ih =>
    intro s a j hn hj ha h hQ
    have hc := h.1
    refine s_X4_hasRing_34 ?_
    (repeat' (with_reducible first | refine ⟨?_, ?_⟩ | intro _))
    all_goals first | omega | exact k_ring3 5602 s 0 0 (by omega) (by omega) (by omega) (fun i h0 h1 => by omega) h hQ | exact ih s a (j + 1) (by omega) (by omega) (by omega) h hQ | skip
    refine c_X4_countPart h fun s4 m4 h4 => c_X4_countPart h4 fun s5 m5 h5 => ?_
    (repeat' (with_reducible first | refine ⟨?_, ?_⟩ | intro _))
    all_goals first | omega | skip
    exact ih s5 (a + 1) (j + 1) (by omega) (by omega) (by omega) h5 (fun s' v m' h' => hQ s' v (((m4.tr m5).mono (by decide) (by decide)).tr m') h')
theorem k_ring1 {a : Int} {Q : ST → Int → Prop} (ha : a = 0) : ∀ (n : Nat) (s : ST) (j : Int), 5602 - j ≤ (n : Int) → (0 ≤ j ∧ j ≤ 5602) → KI s → (∀ s' v, md [] [39, 43, 44] s s' → KI s' → Q s' v) → K_X4_hasRing_4 s a j Q := by
  intro n
  induction n with
  | zero =>
    intro s j hn hj h hQ
    refine s_X4_hasRing_4 ?_
    (repeat' (with_reducible first | refine ⟨?_, ?_⟩ | intro _))
    all_goals first | omega | exact k_ring2 5602 s a 0 (by omega) (by omega) (by omega) h hQ | skip
  | succ n ih =>
    intro s j hn hj h hQ
    have hc := h.1
    refine s_X4_hasRing_4 ?_
    (repeat' (with_reducible first | refine ⟨?_, ?_⟩ | intro _))
    all_goals first | omega | exact k_ring2 5602 s a 0 (by omega) (by omega) (by omega) h hQ | skip
    exact ih _ (j + 1) (by omega) (by omega) (h.keep (fs := []) (cs := [43]) (by repeat' (first | exact md.rf | assumption | refine md.ui ?_ ?_ | refine md.uj ?_ ?_ | exact Or.inr (by decide) | exact Or.inl (by decide))) (by decide) (by decide) (by decide) (by decide)) (fun s' v m' h' => hQ s' v (md.tr (by repeat' (first | exact md.rf | assumption | refine md.ui ?_ ?_ | refine md.uj ?_ ?_ | exact Or.inr (by decide) | exact Or.inl (by decide))) m') h')
theorem c_X4_hasRing {s : ST} {Q : ST → Int → Prop} (h : KI s) (hQ : ∀ s' v, md [] [39, 43, 44] s s' → KI s' → Q s' v) : C_X4_hasRing s Q :=
  s_X4_hasRing fun _ => k_ring1 rfl 5602 s 0 (by omega) (by omega) h hQ
theorem c_X4_pileInOrder {s : ST} {p q : Int} {Q : ST → Int → Prop} (hp : 0 ≤ p ∧ p < 5602) (hq : 0 ≤ q ∧ q ≤ 5604) (hQ : ∀ s' v, md [] [44] s s' → (0 ≤ v ∧ v ≤ 5604) → Q s' v) : C_X4_pileInOrder s p q Q := by
  have hk := ka_r s (s.1 40 p)
  have key : ∀ x, q + 2 ≤ 5604 → K_X4_pileInOrder_56 s p q (F_X10_kindArity s (s.1 40 p)) q x Q := by
    intro x hu2
    refine s_X4_pileInOrder_56 ?_
    (repeat' (with_reducible first | refine ⟨?_, ?_⟩ | intro _))
    all_goals first | omega | exact hQ _ _ (by repeat' (first | exact md.rf | assumption | refine md.ui ?_ ?_ | refine md.uj ?_ ?_ | exact Or.inr (by decide) | exact Or.inl (by decide))) (by omega)
  refine s_X4_pileInOrder ?_
  (repeat' (with_reducible first | refine ⟨?_, ?_⟩ | intro _))
  all_goals first | omega | exact key _ (by omega) | exact hQ _ _ md.rf (by omega) | skip
theorem k_num45 {p : Int} {Q : ST → Int → Prop} : ∀ (n : Nat) (s : ST) (o t j : Int), 500 - j ≤ (n : Int) → 0 ≤ j → (0 ≤ o ∧ o ≤ j) → (0 ≤ t ∧ t ≤ 5604) → KI s → (∀ s' v, md [] [39, 43, 44] s s' → KI s' → Q s' v) → K_X4_numberAt_45 s p o t j Q := by
  intro n
  induction n with
  | zero =>
    intro s o t j hn hj ho ht h hQ
    refine s_X4_numberAt_45 ?_
    (repeat' (with_reducible first | refine ⟨?_, ?_⟩ | intro _))
    all_goals first | exact hQ _ _ md.rf h | omega | skip
  | succ n ih =>
    intro s o t j hn hj ho ht h hQ
    have hc := h.1
    refine s_X4_numberAt_45 ?_
    (repeat' (with_reducible first | refine ⟨?_, ?_⟩ | intro _))
    all_goals first | exact hQ _ _ md.rf h | omega | skip
    refine c_X4_chief h fun s3 v3 m3 h3 b3 => ?_
    have m3' : md [] [39, 43, 44] s s3 := m3.mono (by decide) (by decide)
    have key : ∀ s4 o', md [] [39, 43, 44] s s4 → KI s4 → (0 ≤ o' ∧ o' ≤ j + 1) → 0 ≤ v3 → v3 < 5602 → K_X4_numberAt_133 s4 p o' (t - 1) j v3 Q := by
      intro s4 o' m4 h4 ho' h0 h1
      refine s_X4_numberAt_133 ?_
      (repeat' (with_reducible first | refine ⟨?_, ?_⟩ | intro _))
      all_goals first | omega | exact hQ _ _ m4 h4 | skip
      refine c_X4_pileInOrder (by omega) (by omega) fun s5 v5 m5 b5 => ?_
      (repeat' (with_reducible first | refine ⟨?_, ?_⟩ | intro _))
      all_goals first | omega | skip
      exact ih s5 o' v5 (j + 1) (by omega) (by omega) (by omega) (by omega) (h4.keep m5 (by decide) (by decide) (by decide) (by decide)) (fun s' v m' h' => hQ s' v ((m4.tr (m5.mono (by decide) (by decide))).tr m') h')
    (repeat' (with_reducible first | refine ⟨?_, ?_⟩ | intro _))
    all_goals first | omega | exact key _ _ m3' h3 (by omega) (by omega) (by omega) | exact hQ _ _ m3' h3 | skip
    exact key _ _ (m3'.ui (Or.inr (by decide))) (h3.keep (fs := []) (cs := [43]) (by repeat' (first | exact md.rf | assumption | refine md.ui ?_ ?_ | refine md.uj ?_ ?_ | exact Or.inr (by decide) | exact Or.inl (by decide))) (by decide) (by decide) (by decide) (by decide)) (by omega) (by omega) (by omega)
theorem k_num2 {p q : Int} {Q : ST → Int → Prop} : ∀ (n : Nat) (s : ST) (j : Int), 5602 - j ≤ (n : Int) → (0 ≤ j ∧ j ≤ 5602) → KI s → (∀ s' v, md [] [39, 43, 44] s s' → KI s' → Q s' v) → K_X4_numberAt_2 s p q j Q := by
  intro n
  induction n with
  | zero =>
    intro s j hn hj h hQ
    refine s_X4_numberAt_2 ?_
    (repeat' (with_reducible first | refine ⟨?_, ?_⟩ | intro _))
    all_goals first | omega | skip
    all_goals (refine s_X4_numberAt_30 ?_; (repeat' (with_reducible first | refine ⟨?_, ?_⟩ | intro _)); all_goals first | omega | skip)
    all_goals exact k_num45 500 _ 0 1 0 (by omega) (by omega) (by omega) (by omega) (h.keep (fs := []) (cs := [44]) (by repeat' (first | exact md.rf | assumption | refine md.ui ?_ ?_ | refine md.uj ?_ ?_ | exact Or.inr (by decide) | exact Or.inl (by decide))) (by decide) (by decide) (by decide) (by decide)) (fun s' v m' h' => hQ s' v (md.tr (by repeat' (first | exact md.rf | assumption | refine md.ui ?_ ?_ | refine md.uj ?_ ?_ | exact Or.inr (by decide) | exact Or.inl (by decide))) m') h')
  | succ n ih =>
    intro s j hn hj h hQ
    have hc := h.1
    refine s_X4_numberAt_2 ?_
    (repeat' (with_reducible first | refine ⟨?_, ?_⟩ | intro _))
    all_goals first | omega | skip
    · refine s_X4_numberAt_30 ?_
      (repeat' (with_reducible first | refine ⟨?_, ?_⟩ | intro _))
      all_goals first | omega | skip
      exact k_num45 500 _ 0 1 0 (by omega) (by omega) (by omega) (by omega) (h.keep (fs := []) (cs := [44]) (by repeat' (first | exact md.rf | assumption | refine md.ui ?_ ?_ | refine md.uj ?_ ?_ | exact Or.inr (by decide) | exact Or.inl (by decide))) (by decide) (by decide) (by decide) (by decide)) (fun s' v m' h' => hQ s' v (md.tr (by repeat' (first | exact md.rf | assumption | refine md.ui ?_ ?_ | refine md.uj ?_ ?_ | exact Or.inr (by decide) | exact Or.inl (by decide))) m') h')
    · exact ih _ (j + 1) (by omega) (by omega) (h.keep (fs := []) (cs := [43]) (by repeat' (first | exact md.rf | assumption | refine md.ui ?_ ?_ | refine md.uj ?_ ?_ | exact Or.inr (by decide) | exact Or.inl (by decide))) (by decide) (by decide) (by decide) (by decide)) (fun s' v m' h' => hQ s' v (md.tr (by repeat' (first | exact md.rf | assumption | refine md.ui ?_ ?_ | refine md.uj ?_ ?_ | exact Or.inr (by decide) | exact Or.inl (by decide))) m') h')
theorem c_X4_numberAt {s : ST} {p q : Int} {Q : ST → Int → Prop} (h : KI s) (hQ : ∀ s' v, md [] [39, 43, 44] s s' → KI s' → Q s' v) : C_X4_numberAt s p q Q :=
  s_X4_numberAt fun _ _ _ => k_num2 5602 s 0 (by omega) (by omega) h hQ
theorem c_X4_makeOpen {s : ST} {Q : ST → Int → Prop} (h : KI s) (hQ : ∀ s' v, md [(38, 2)] [39, 40, 41, 42] s s' → KI s' → Q s' v) : C_X4_makeOpen s Q :=
  s_X4_makeOpen fun _ => c_X4_make h hQ
