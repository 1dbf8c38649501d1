/-! THE REFERENCE: left, sure, trust; the cheapest mend -/
def RG (s : ST) : Prop := 0 ≤ s.1 139 92 ∧ s.1 139 92 ≤ 30
def TR (s : ST) : Prop := ∀ p, 0 ≤ p → p < 40 → 1 ≤ s.1 176 p ∧ s.1 176 p ≤ 100
def lF : List (Nat × Int) := (139, 94) :: (139, 95) :: qF
theorem k_left91 {a : Int} {Q : ST → Int → Prop} : ∀ (m : Nat) (s : ST) (j : Int), 4096 - j ≤ (m : Int) → 0 ≤ j → BK s → s.1 142 (s.1 139 28) ≤ 12 → (0 ≤ s.1 139 94 ∧ s.1 139 94 ≤ j) → (∀ s' v, md [(139, 94), (139, 95)] [] s s' → Q s' v) → K_X11_layLeft_91 s a j Q := by
  intro m
  induction m with
  | zero =>
    intro s j hm h0 hb h12 hl hQ
    have := hb.1
    have := hb.2.1.nn
    have := ishl12 (n := s.1 142 (s.1 139 28)) (by omega) h12
    refine s_X11_layLeft_91 ?_
    (repeat' (with_reducible first | refine ⟨?_, ?_⟩ | intro _))
    all_goals first | omega | exact hQ _ _ md.rf
  | succ m ih =>
    intro s j hm h0 hb h12 hl hQ
    have := hb.1
    have := hb.2.1.nn
    have := ishl12 (n := s.1 142 (s.1 139 28)) (by omega) h12
    refine s_X11_layLeft_91 ?_
    (repeat' (with_reducible first | refine ⟨?_, ?_⟩ | intro _))
    all_goals first | omega | exact hQ _ _ md.rf | exact ih s (j + 1) (by omega) (by omega) hb h12 (by omega) hQ | skip
    refine c_X11_isMend hb h12 fun v => ?_
    (repeat' (with_reducible first | refine ⟨?_, ?_⟩ | intro _))
    all_goals first | omega | exact ih s (j + 1) (by omega) (by omega) hb h12 (by omega) hQ | skip
    have m3 : md [(139, 94), (139, 95)] [] s (ui (ui s 139 94 (s.1 139 94 + 1)) 139 95 (iand (s.1 139 95) j)) := (by repeat' (first | exact md.rf | assumption | refine md.ui ?_ ?_ | refine md.uj ?_ ?_ | exact Or.inr (by decide) | exact Or.inl (by decide)))
    have e1 : (ui (ui s 139 94 (s.1 139 94 + 1)) 139 95 (iand (s.1 139 95) j)).1 139 94 = s.1 139 94 + 1 := by rw [ui_ne (by decide), ui_same]
    exact ih _ (j + 1) (by omega) (by omega) (hb.keep m3 (by decide) (by decide)) (by rw [m3.f 139 28 (by decide) (by decide), m3.c 142 (by decide) (by decide)]; exact h12) (by omega) (fun s' v' m' => hQ s' v' (m3.tr m'))
theorem k_left13 {p : Int} {s : ST} {Q : ST → Int → Prop} (hb : BK s) (h12 : s.1 142 (s.1 139 28) ≤ 12) (hr : RG s) (hQ : ∀ s' v, md [(139, 94), (139, 95)] [] s s' → Q s' v) : ∀ (m : Nat) (a j : Int), 30 - j ≤ (m : Int) → 0 ≤ j → K_X11_layLeft_13 s p a j Q := by
  have := hb.1
  have := hb.2.1.nn
  have := ishl12 (n := s.1 142 (s.1 139 28)) (by omega) h12
  have fin : ∀ a, K_X11_layLeft_91 (ui (ui s 139 94 0) 139 95 ((ishl 1 (s.1 142 (s.1 139 28))) - 1)) a 0 Q := by
    intro a
    have m3 : md [(139, 94), (139, 95)] [] s (ui (ui s 139 94 0) 139 95 ((ishl 1 (s.1 142 (s.1 139 28))) - 1)) := (by repeat' (first | exact md.rf | assumption | refine md.ui ?_ ?_ | refine md.uj ?_ ?_ | exact Or.inr (by decide) | exact Or.inl (by decide)))
    have e1 : (ui (ui s 139 94 0) 139 95 ((ishl 1 (s.1 142 (s.1 139 28))) - 1)).1 139 94 = 0 := by rw [ui_ne (by decide), ui_same]
    exact k_left91 4096 _ 0 (by omega) (by omega) (hb.keep m3 (by decide) (by decide)) (by rw [m3.f 139 28 (by decide) (by decide), m3.c 142 (by decide) (by decide)]; exact h12) (by omega) (fun s' v' m' => hQ s' v' (m3.tr m'))
  obtain ⟨r0, r1⟩ := hr
  intro m
  induction m with
  | zero =>
    intro a j hm h0
    refine s_X11_layLeft_13 ?_
    (repeat' (with_reducible first | refine ⟨?_, ?_⟩ | intro _))
    all_goals first | omega | exact fin _
  | succ m ih =>
    intro a j hm h0
    have k50 : j < 30 → K_X11_layLeft_50 s p a j Q := by
      intro hj
      refine s_X11_layLeft_50 ?_
      (repeat' (with_reducible first | refine ⟨?_, ?_⟩ | intro _))
      all_goals first | omega | exact ih _ (j + 1) (by omega) (by omega)
    refine s_X11_layLeft_13 ?_
    (repeat' (with_reducible first | refine ⟨?_, ?_⟩ | intro _))
    all_goals first | omega | exact fin _ | exact ih _ (j + 1) (by omega) (by omega) | exact k50 (by omega)
theorem c_X11_layLeft {s : ST} {p : Int} {Q : ST → Int → Prop} (hb : BK s) (hl : LD s) (hr : RG s) (hQ : ∀ s' v, md lF qC s s' → LD s' → Q s' v) : C_X11_layLeft s p Q := by
  refine s_X11_layLeft fun _ _ => c_X11_layClashes hb hl (fun s1 v1 h12 m1 l1 => ?_) (fun _ => ?_)
  · have hb1 := hb.keep m1 (by decide) (by decide)
    have e1 := m1.f 139 28 (by decide) (by decide)
    have e2 := m1.c 142 (by decide) (by decide) (s.1 139 28)
    have e3 := m1.f 139 92 (by decide) (by decide)
    have m1' : md lF qC s s1 := m1.mono (by decide) (by decide)
    refine fun _ => ⟨fun _ => ?_, fun _ => hQ _ _ m1' l1.ld⟩
    refine k_left13 hb1 (by rw [e1]; omega) ⟨by rw [e3]; exact hr.1, by rw [e3]; exact hr.2⟩ (fun s' v' m' => hQ s' v' (m1'.tr (m'.mono (by decide) (by decide))) ?_) 30 0 0 (by omega) (by omega)
    obtain ⟨g1, g2, g3⟩ := l1
    intro _
    refine ⟨?_, ?_⟩
    · obtain ⟨t1, t2, t3, t4⟩ := g2
      unfold TI
      rw [m'.f 139 46 (by decide) (by decide), m'.f 139 47 (by decide) (by decide), bins_eq (fun t => m'.c 161 (by decide) (by decide) t)]
      refine ⟨t1.keep m' (by decide) (by decide) (by decide) (by decide) (by decide) (by decide), t2, t3, fun k a b => ?_⟩
      rw [m'.c 168 (by decide) (by decide), m'.c 169 (by decide) (by decide)]
      exact t4 k a b
    · rw [m'.f 139 28 (by decide) (by decide), m'.c 143 (by decide) (by decide)]
      exact g3.keep m' (by rw [m'.f 139 46 (by decide) (by decide)]; omega) (by decide) (by decide)
  · exact fun _ => ⟨fun h => absurd rfl h, fun _ => hQ _ _ md.rf hl⟩
theorem c_X11_left {s : ST} {p : Int} {Q : ST → Int → Prop} (hb : BK s) (hl : LD s) (hr : RG s) (hQ : ∀ s' v, md lF qC s s' → LD s' → Q s' v) : C_X11_left s p Q := by
  refine s_X11_left fun _ _ => c_X11_layLeft hb hl hr fun s1 v1 m1 l1 => ?_
  (repeat' (with_reducible first | refine ⟨?_, ?_⟩ | intro _))
  all_goals exact hQ _ _ m1 l1
theorem c_X11_sure {s : ST} {p : Int} {Q : ST → Int64 → Prop} (hb : BK s) (hl : LD s) (hr : RG s) (hQ : ∀ s' v, md lF qC s s' → LD s' → Q s' v) : C_X11_sure s p Q := by
  refine s_X11_sure fun _ _ => c_X11_layLeft hb hl hr fun s1 v1 m1 l1 => ?_
  (repeat' (with_reducible first | refine ⟨?_, ?_⟩ | intro _))
  all_goals exact hQ _ _ m1 l1
theorem c_X11_trust {s : ST} {p q : Int} {Q : ST → Int → Prop} (hb : BK s) (ht : TR s) (hQ : ∀ s' v, md [(139, 62), (139, 63)] [176] s s' → TR s' → (s'.1 139 62 = s.1 139 62 ∧ s'.1 139 63 = s.1 139 63 ∨ s'.1 139 62 = 0 ∧ s'.1 139 63 = 0) → Q s' v) : C_X11_trust s p q Q := by
  have hn := hb.2.1.nn
  refine s_X11_trust fun _ _ _ => ⟨PisPlace hb, fun _ => hQ s _ md.rf ht (Or.inl ⟨rfl, rfl⟩), fun hp => ⟨fun hq => ?_, fun _ => hQ s _ md.rf ht (Or.inl ⟨rfl, rfl⟩)⟩⟩
  have hp := isIn_0 hp
  refine ⟨⟨by omega, by omega⟩, hQ _ _ (by repeat' (first | exact md.rf | assumption | refine md.ui ?_ ?_ | refine md.uj ?_ ?_ | exact Or.inr (by decide) | exact Or.inl (by decide))) (fun i i0 i1 => ?_) (Or.inr ⟨?_, ui_same⟩)⟩
  · rw [ui_cell (by decide), ui_cell (by decide)]
    by_cases e : i = p
    · rw [e, ui_same]; omega
    · rw [ui_ne e]; exact ht i i0 i1
  · rw [ui_ne (by decide), ui_same]
theorem k_whole {s : ST} {Q : ST → Int → Prop} (hb : BK s) (ht : TR s) (hQ : ∀ v, 0 ≤ v → v ≤ 4000 → Q s v) : ∀ (m : Nat) (a j : Int), 40 - j ≤ (m : Int) → (0 ≤ j ∧ j ≤ 40) → (0 ≤ a ∧ a ≤ 100 * j) → K_X11_wholeTrust_4 s a j Q := by
  have := hb.1
  have hn := hb.2.1.nn
  intro m
  induction m with
  | zero =>
    intro a j hm h0 ha
    refine s_X11_wholeTrust_4 ?_
    (repeat' (with_reducible first | refine ⟨?_, ?_⟩ | intro _))
    all_goals first | omega | exact hQ _ (by omega) (by omega)
  | succ m ih =>
    intro a j hm h0 ha
    by_cases c : j < 40
    · have hj := ht j h0.1 c
      refine s_X11_wholeTrust_4 ?_
      (repeat' (with_reducible first | refine ⟨?_, ?_⟩ | intro _))
      all_goals first | omega | exact hQ _ (by omega) (by omega) | exact ih _ (j + 1) (by omega) (by omega) (by omega)
    · refine s_X11_wholeTrust_4 ?_
      (repeat' (with_reducible first | refine ⟨?_, ?_⟩ | intro _))
      all_goals first | omega | exact hQ _ (by omega) (by omega)
theorem c_X11_wholeTrust {s : ST} {Q : ST → Int → Prop} (hb : BK s) (ht : TR s) (hQ : ∀ v, 0 ≤ v → v ≤ 4000 → Q s v) : C_X11_wholeTrust s Q :=
  s_X11_wholeTrust fun _ => k_whole hb ht hQ 40 0 0 (by omega) (by omega) (by omega)
/-! the search for the cheapest -/
def bitsIn (x : Int64) (n : Int) : Nat := cn (fun i => lbt x i.toNat) n.toNat
theorem lbt_z (p : Nat) : lbt 0 p = false := BitVec.getLsbD_zero
theorem c_X11_level {s : ST} {p : Int} {Q : ST → Prop} (hb : BK s) (hl : LAID s) (hp : 0 ≤ p ∧ p < 42) (hQ : ∀ s', md [(139, 60), (139, 61)] [164, 165, 166, 179, 181] s s' → LAID s' → (∀ i, i ≠ p → s'.2 179 i = s.2 179 i ∧ s'.1 181 i = s.1 181 i) → s'.1 181 p = -1 → (∀ q : Nat, q < 64 → lbt (s'.2 179 p) q = true → lbt (s.2 177 p) q = false) → Q s') : C_X11_level s p Q := by
  refine s_X11_level fun _ _ => ⟨Pall hb, hp, ?_⟩
  have m0 : md [] [179, 181] s (ui (uj s 179 p 0) 181 p (-1)) := (by repeat' (first | exact md.rf | assumption | refine md.ui ?_ ?_ | refine md.uj ?_ ?_ | exact Or.inr (by decide) | exact Or.inl (by decide)))
  have a0 : (ui (uj s 179 p 0) 181 p (-1)).2 179 p = 0 := by show (uj s 179 p 0).2 179 p = 0; exact uj_same
  have b0 : ∀ i, i ≠ p → (ui (uj s 179 p 0) 181 p (-1)).2 179 i = s.2 179 i ∧ (ui (uj s 179 p 0) 181 p (-1)).1 181 i = s.1 181 i := fun i hi => ⟨by show (uj s 179 p 0).2 179 i = _; exact uj_ne hi, by rw [ui_ne hi]; rfl⟩
  have c0 : (ui (uj s 179 p 0) 181 p (-1)).1 181 p = -1 := ui_same
  have hb0 := hb.keep m0 (by decide) (by decide)
  have l0 : LAID (ui (uj s 179 p 0) 181 p (-1)) := by
    obtain ⟨g1, g2, g3⟩ := hl
    unfold LAID
    rw [m0.f 139 49 (by decide) (by decide), m0.f 139 28 (by decide) (by decide), m0.c 143 (by decide) (by decide)]
    refine ⟨g1, ?_, g3.keep m0 (by rw [m0.f 139 46 (by decide) (by decide)]; omega) (by decide) (by decide)⟩
    obtain ⟨t1, t2, t3, t4⟩ := g2
    unfold TI
    rw [m0.f 139 46 (by decide) (by decide), m0.f 139 47 (by decide) (by decide), bins_eq (fun t => m0.c 161 (by decide) (by decide) t)]
    refine ⟨t1.keep m0 (by decide) (by decide) (by decide) (by decide) (by decide) (by decide), t2, t3, fun k a b => ?_⟩
    rw [m0.c 168 (by decide) (by decide), m0.c 169 (by decide) (by decide)]
    exact t4 k a b
  generalize ui (uj s 179 p 0) 181 p (-1) = s0 at *
  refine c_X11_clash l0.2.1 fun s4 v4 m4 _ => ?_
  have l4 := l0.keep (m4.mono (by decide) (by decide))
  have hb4 := hb0.keep m4 (by decide) (by decide)
  have m04 : md [(139, 60), (139, 61)] [164, 165, 166, 179, 181] s s4 := (m0.mono (by decide) (by decide)).tr (m4.mono (by decide) (by decide))
  have b4 : ∀ i, i ≠ p → s4.2 179 i = s.2 179 i ∧ s4.1 181 i = s.1 181 i := fun i hi => by rw [m4.cj 179 (by decide) (by decide), m4.c 181 (by decide) (by decide)]; exact b0 i hi
  have c4 : s4.1 181 p = -1 := by rw [m4.c 181 (by decide) (by decide)]; exact c0
  have a4 : s4.2 179 p = 0 := by rw [m4.cj 179 (by decide) (by decide)]; exact a0
  have z4 : ∀ q : Nat, q < 64 → lbt (s4.2 179 p) q = true → lbt (s.2 177 p) q = false := fun q _ h => by rw [a4, lbt_z] at h; cases h
  have k92 : K_X11_level_92 s4 p Q := by
    refine s_X11_level_92 ?_
    (repeat' (with_reducible first | refine ⟨?_, ?_⟩ | intro _))
    all_goals first | omega | skip
    have m9 : md [(139, 60), (139, 61)] [] s4 (uj (ui s4 139 61 (s4.1 180 p)) 139 60 (s4.2 177 p)) := (by repeat' (first | exact md.rf | assumption | refine md.ui ?_ ?_ | refine md.uj ?_ ?_ | exact Or.inr (by decide) | exact Or.inl (by decide)))
    refine hQ _ (m04.tr (m9.mono (by decide) (by decide))) ?_ (fun i hi => ?_) ?_ ?_
    · obtain ⟨g1, g2, g3⟩ := l4
      unfold LAID
      rw [m9.f 139 49 (by decide) (by decide), m9.f 139 28 (by decide) (by decide), m9.c 143 (by decide) (by decide)]
      refine ⟨g1, ?_, g3.keep m9 (by rw [m9.f 139 46 (by decide) (by decide)]; omega) (by decide) (by decide)⟩
      obtain ⟨t1, t2, t3, t4⟩ := g2
      unfold TI
      rw [m9.f 139 46 (by decide) (by decide), m9.f 139 47 (by decide) (by decide), bins_eq (fun t => m9.c 161 (by decide) (by decide) t)]
      refine ⟨t1.keep m9 (by decide) (by decide) (by decide) (by decide) (by decide) (by decide), t2, t3, fun k a b => ?_⟩
      rw [m9.c 168 (by decide) (by decide), m9.c 169 (by decide) (by decide)]
      exact t4 k a b
    · rw [m9.cj 179 (by decide) (by decide), m9.c 181 (by decide) (by decide)]; exact b4 i hi
    · rw [m9.c 181 (by decide) (by decide)]; exact c4
    · rw [m9.cj 179 (by decide) (by decide)]; exact z4
  refine fun _ => ⟨fun _ => ?_, fun _ => ?_⟩
  · (repeat' (with_reducible first | refine ⟨?_, ?_⟩ | intro _))
    all_goals first | exact k92 | exact hQ _ m04 l4 b4 c4 z4
  · refine c_X11_coreOf hb4 l4.2.1 fun s5 v5 m5 h5 => ?_
    have l5 := l4.keep (m5.mono (by decide) (by decide))
    have m9 : md [] [179] s5 (uj s5 179 p v5) := (by repeat' (first | exact md.rf | assumption | refine md.ui ?_ ?_ | refine md.uj ?_ ?_ | exact Or.inr (by decide) | exact Or.inl (by decide)))
    refine hQ _ (m04.tr ((m5.mono (by decide) (by decide)).tr (m9.mono (by decide) (by decide)))) ?_ (fun i hi => ?_) ?_ (fun q hq h => ?_)
    · obtain ⟨g1, g2, g3⟩ := l5
      unfold LAID
      rw [m9.f 139 49 (by decide) (by decide), m9.f 139 28 (by decide) (by decide), m9.c 143 (by decide) (by decide)]
      refine ⟨g1, ?_, g3.keep m9 (by rw [m9.f 139 46 (by decide) (by decide)]; omega) (by decide) (by decide)⟩
      obtain ⟨t1, t2, t3, t4⟩ := g2
      unfold TI
      rw [m9.f 139 46 (by decide) (by decide), m9.f 139 47 (by decide) (by decide), bins_eq (fun t => m9.c 161 (by decide) (by decide) t)]
      refine ⟨t1.keep m9 (by decide) (by decide) (by decide) (by decide) (by decide) (by decide), t2, t3, fun k a b => ?_⟩
      rw [m9.c 168 (by decide) (by decide), m9.c 169 (by decide) (by decide)]
      exact t4 k a b
    · rw [uj_ne hi, uj_i, m5.cj 179 (by decide) (by decide), m5.c 181 (by decide) (by decide)]; exact b4 i hi
    · rw [uj_i, m5.c 181 (by decide) (by decide)]; exact c4
    · rw [uj_same] at h
      have := h5 q hq h
      rw [lbt_and, Bool.and_eq_true, lbt_not _ hq] at this
      have := this.2
      cases hx : lbt (s.2 177 p) q with
      | false => rfl
      | true => rw [hx] at this; cases this
