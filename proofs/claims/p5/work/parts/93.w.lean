/-! THE REFERENCE: one place of a program written anew -/
theorem kid_size {so en : Int → Int} {kd : Int → Int → Int} {nP : Int} (t : T1 so en kd nP) {q k : Int} (h0 : 0 ≤ q) (h1 : q < nP) (k0 : 0 ≤ k) (k1 : k < ar (so q)) : en (kd q k) - kd q k + ar (so q) ≤ en q - q := by
  have hp := t q h0 h1
  have hr := ar_r (so q)
  obtain ⟨e0, g0⟩ := hp.2.2.2.1 (by omega)
  have a0 := t.kid h0 h1 (Int.le_refl 0) (show 0 < ar (so q) by omega)
  by_cases c1 : ar (so q) = 1
  · have := hp.2.2.2.2.1 c1
    rw [show k = 0 by omega]; omega
  · obtain ⟨e1, g1⟩ := hp.2.2.2.2.2.1 (by omega)
    have a1 := t.kid h0 h1 (show (0 : Int) ≤ 1 by omega) (show 1 < ar (so q) by omega)
    by_cases c2 : ar (so q) = 2
    · have := hp.2.2.2.2.2.2.1 c2
      by_cases c : k = 0
      · rw [c]; omega
      · rw [show k = 1 by omega]; omega
    · obtain ⟨⟨e2, g2⟩, e3⟩ := hp.2.2.2.2.2.2.2 (by omega)
      have a2 := t.kid h0 h1 (show (0 : Int) ≤ 2 by omega) (show 2 < ar (so q) by omega)
      by_cases c : k = 0
      · rw [c]; omega
      · by_cases d : k = 1
        · rw [d]; omega
        · rw [show k = 2 by omega]; omega
/-- place q of the source has been put at the end of bank 2 -/
def PUT (s s' : ST) (q so dO kA kL bi : Int) : Prop := md [(142, 2)] [146, 147, 148, 149, 153, 154, 155, 158, 182] s s' ∧ s'.1 142 2 = s.1 142 2 + 1 ∧ s'.1 182 q = s.1 142 2 ∧ (∀ r, r ≠ q → s'.1 182 r = s.1 182 r) ∧ (s'.1 146 (80 + s.1 142 2) = so ∧ s'.1 149 (80 + s.1 142 2) = dO ∧ s'.1 154 (80 + s.1 142 2) = kA ∧ s'.1 155 (80 + s.1 142 2) = kL ∧ s'.1 153 (80 + s.1 142 2) = bi) ∧
  ∀ z, z ≠ 80 + s.1 142 2 → s'.1 146 z = s.1 146 z ∧ s'.1 149 z = s.1 149 z ∧ s'.1 153 z = s.1 153 z ∧ s'.1 154 z = s.1 154 z ∧ s'.1 155 z = s.1 155 z ∧ s'.2 158 z = s.2 158 z
theorem c_X11_takes {s : ST} {b q : Int} {Q : ST → Prop} (hb : s.1 139 28 = b) (b01 : 0 ≤ b ∧ b ≤ 1) (hq : 0 ≤ q ∧ q < 40) (ho : 0 ≤ s.1 142 2 ∧ s.1 142 2 < 40) (hbi : s.1 153 (40 * b + q) < 0 ∨ 100 ≤ s.1 153 (40 * b + q) ∨ (0 ≤ s.1 153 (40 * b + q) ∧ s.1 153 (40 * b + q) < 40 ∧ s.1 153 (40 * b + q) ≠ q))
    (hQ : ∀ s', PUT s s' q (s.1 146 (40 * b + q)) (s.1 149 (40 * b + q)) (s.1 154 (40 * b + q)) (s.1 155 (40 * b + q)) (if s.1 153 (40 * b + q) < 0 ∨ 100 ≤ s.1 153 (40 * b + q) then s.1 153 (40 * b + q) else s.1 182 (s.1 153 (40 * b + q))) → Q s') : C_X11_takes s q Q := by
  subst hb
  have key : ∀ v, v = (if s.1 153 (40 * s.1 139 28 + q) < 0 ∨ 100 ≤ s.1 153 (40 * s.1 139 28 + q) then s.1 153 (40 * s.1 139 28 + q) else s.1 182 (s.1 153 (40 * s.1 139 28 + q))) → K_X11_takes_171 (ui (ui (uj (ui (ui (ui (ui (ui (ui s 182 q (s.1 142 2)) 142 2 (s.1 142 2 + 1)) 146 (80 + s.1 142 2) (s.1 146 ((40 * s.1 139 28) + q))) 147 (80 + s.1 142 2) (s.1 147 ((40 * s.1 139 28) + q))) 148 (80 + s.1 142 2) (s.1 148 ((40 * s.1 139 28) + q))) 149 (80 + s.1 142 2) (s.1 149 ((40 * s.1 139 28) + q))) 158 (80 + s.1 142 2) (s.2 158 ((40 * s.1 139 28) + q))) 154 (80 + s.1 142 2) (s.1 154 ((40 * s.1 139 28) + q))) 155 (80 + s.1 142 2) (s.1 155 ((40 * s.1 139 28) + q))) (80 + s.1 142 2) v Q := by
    intro v hv
    refine s_X11_takes_171 ?_
    (repeat' (with_reducible first | refine ⟨?_, ?_⟩ | intro _))
    all_goals first | omega | skip
    refine hQ _ ⟨(by repeat' (first | exact md.rf | assumption | refine md.ui ?_ ?_ | refine md.uj ?_ ?_ | exact Or.inr (by decide) | exact Or.inl (by decide))), ?_, ?_, fun r hr => ?_, ⟨?_, ?_, ?_, ?_, ?_⟩, fun z hz => ⟨?_, ?_, ?_, ?_, ?_, ?_⟩⟩
    · simp (disch := decide) only [ui_cell, uj_i, ui_same]
    · simp (disch := decide) only [ui_cell, uj_i, ui_same]
    · simp (disch := decide) only [ui_cell, uj_i]; exact ui_ne hr
    · simp (disch := decide) only [ui_cell, uj_i, ui_same]
    · simp (disch := decide) only [ui_cell, uj_i, ui_same]
    · simp (disch := decide) only [ui_cell, uj_i, ui_same]
    · simp (disch := decide) only [ui_cell, uj_i, ui_same]
    · rw [ui_same]; exact hv
    · simp (disch := decide) only [ui_cell, uj_i]; rw [ui_ne hz]; simp (disch := decide) only [ui_cell, uj_i]
    · simp (disch := decide) only [ui_cell, uj_i]; rw [ui_ne hz]; simp (disch := decide) only [ui_cell, uj_i]
    · rw [ui_ne hz]; simp (disch := decide) only [ui_cell, uj_i]
    · simp (disch := decide) only [ui_cell, uj_i]; rw [ui_ne hz]; simp (disch := decide) only [ui_cell, uj_i]
    · simp (disch := decide) only [ui_cell, uj_i]; rw [ui_ne hz]; simp (disch := decide) only [ui_cell, uj_i]
    · simp (disch := decide) only [ui_j]; rw [uj_ne hz]; simp (disch := decide) only [ui_j]
  have k151 : (s.1 153 (40 * s.1 139 28 + q) < 0 ∨ 100 ≤ s.1 153 (40 * s.1 139 28 + q)) → K_X11_takes_151 (ui (ui (uj (ui (ui (ui (ui (ui (ui s 182 q (s.1 142 2)) 142 2 (s.1 142 2 + 1)) 146 (80 + s.1 142 2) (s.1 146 ((40 * s.1 139 28) + q))) 147 (80 + s.1 142 2) (s.1 147 ((40 * s.1 139 28) + q))) 148 (80 + s.1 142 2) (s.1 148 ((40 * s.1 139 28) + q))) 149 (80 + s.1 142 2) (s.1 149 ((40 * s.1 139 28) + q))) 158 (80 + s.1 142 2) (s.2 158 ((40 * s.1 139 28) + q))) 154 (80 + s.1 142 2) (s.1 154 ((40 * s.1 139 28) + q))) 155 (80 + s.1 142 2) (s.1 155 ((40 * s.1 139 28) + q))) ((40 * s.1 139 28) + q) (80 + s.1 142 2) Q := by
    intro h
    refine s_X11_takes_151 ?_
    (repeat' (with_reducible first | refine ⟨?_, ?_⟩ | intro _))
    all_goals first | omega | skip
    refine key _ ?_
    rw [if_pos h]
    simp (disch := decide) only [ui_cell, uj_i]
  refine s_X11_takes ?_
  (repeat' (with_reducible first | refine ⟨?_, ?_⟩ | intro _))
  all_goals first | omega | exact k151 (by omega) | skip
  refine key _ ?_
  rw [if_neg (by omega)]
  simp (disch := decide) only [ui_cell, uj_i]
  exact ui_ne (by omega)
/-- what changed() does to the last place of bank 2 -/
def CHG (s s' : ST) (so bi : Int) : Prop := md [] [146, 147, 148, 153, 158] s s' ∧ s'.1 146 (80 + s.1 142 2 - 1) = so ∧ s'.1 153 (80 + s.1 142 2 - 1) = bi ∧ ∀ z, z ≠ 80 + s.1 142 2 - 1 → s'.1 146 z = s.1 146 z ∧ s'.1 153 z = s.1 153 z ∧ s'.2 158 z = s.2 158 z
theorem c_X11_changed {s : ST} {c w : Int} {Q : ST → Prop} (b01 : 0 ≤ s.1 139 28 ∧ s.1 139 28 ≤ 1) (hc : 1 ≤ c ∧ c ≤ 4) (ho : 1 ≤ s.1 142 2 ∧ s.1 142 2 ≤ 40) (hw : c = 1 → (0 ≤ w ∧ w < 40) ∧ (0 ≤ s.1 187 w ∧ s.1 187 w < 40 ∨ 100 ≤ s.1 187 w ∧ s.1 187 w < 108))
    (hQ : ∀ s', CHG s s' (if c = 1 then s.1 146 (80 + s.1 142 2 - 1) else if c = 2 then 1 else if c = 3 then 0 else 10) (if c = 1 then (if s.1 187 w < 100 then s.1 182 (s.1 187 w) else s.1 187 w) else -1) → Q s') : C_X11_changed s c w Q := by
  have k77 : ∀ (s2 : ST) v x, c = 1 → (s2 = uj (ui s 147 (80 + s.1 142 2 - 1) 0) 158 (80 + s.1 142 2 - 1) x) → v = (if s.1 187 w < 100 then s.1 182 (s.1 187 w) else s.1 187 w) → K_X11_changed_77 s2 (80 + s.1 142 2 - 1) v Q := by
    intro s2 v x h1 h2 h3
    subst h2
    refine s_X11_changed_77 ?_
    (repeat' (with_reducible first | refine ⟨?_, ?_⟩ | intro _))
    all_goals first | omega | skip
    refine hQ _ ⟨(by repeat' (first | exact md.rf | assumption | refine md.ui ?_ ?_ | refine md.uj ?_ ?_ | exact Or.inr (by decide) | exact Or.inl (by decide))), ?_, ?_, fun z hz => ⟨?_, ?_, ?_⟩⟩
    · rw [if_pos h1]; simp (disch := decide) only [ui_cell, uj_i]
    · rw [if_pos h1, ui_same]; exact h3
    · simp (disch := decide) only [ui_cell, uj_i]
    · rw [ui_ne hz]; simp (disch := decide) only [ui_cell, uj_i]
    · rw [ui_j, uj_ne hz, ui_j]
  have k111 : ∀ (s2 : ST) v x, c ≠ 1 → (s2 = ui (ui s 147 (80 + s.1 142 2 - 1) x) 153 (80 + s.1 142 2 - 1) (-1)) → v = (if c = 2 then 1 else if c = 3 then 0 else 10) → K_X11_changed_111 s2 c (80 + s.1 142 2 - 1) (80 + s.1 142 2 - 1) v Q := by
    intro s2 v x h1 h2 h3
    subst h2
    have main : ∀ s3, md [] [148] (ui (ui (ui s 147 (80 + s.1 142 2 - 1) x) 153 (80 + s.1 142 2 - 1) (-1)) 146 (80 + s.1 142 2 - 1) v) s3 → Q s3 := by
      intro s3 m3
      refine hQ _ ⟨md.tr (by repeat' (first | exact md.rf | assumption | refine md.ui ?_ ?_ | refine md.uj ?_ ?_ | exact Or.inr (by decide) | exact Or.inl (by decide))) (m3.mono (by decide) (by decide)), ?_, ?_, fun z hz => ⟨?_, ?_, ?_⟩⟩
      · rw [if_neg h1, m3.c 146 (by decide) (by decide), ui_same]; exact h3
      · rw [if_neg h1, m3.c 153 (by decide) (by decide), ui_cell (by decide), ui_same]
      · rw [m3.c 146 (by decide) (by decide), ui_ne hz, ui_cell (by decide), ui_cell (by decide)]
      · rw [m3.c 153 (by decide) (by decide), ui_cell (by decide), ui_ne hz, ui_cell (by decide)]
      · rw [m3.cj 158 (by decide) (by decide), ui_j, ui_j, ui_j]
    refine s_X11_changed_111 ?_
    (repeat' (with_reducible first | refine ⟨?_, ?_⟩ | intro _))
    all_goals first | omega | exact main _ md.rf | exact main _ (by repeat' (first | exact md.rf | assumption | refine md.ui ?_ ?_ | refine md.uj ?_ ?_ | exact Or.inr (by decide) | exact Or.inl (by decide)))
  have k27 : ∀ x, (c = 1 → x = 0) → K_X11_changed_27 s c w (80 + s.1 142 2 - 1) (80 + s.1 142 2 - 1) x Q := by
    intro x hx
    by_cases h1 : c = 1
    · obtain ⟨w0, w1⟩ := hw h1
      obtain rfl := hx h1
      have e87 : (ui s 147 (80 + s.1 142 2 - 1) 0).1 187 w = s.1 187 w := ui_cell (by decide)
      have e28 : (ui s 147 (80 + s.1 142 2 - 1) 0).1 139 28 = s.1 139 28 := ui_cell (by decide)
      refine s_X11_changed_27 ?_
      (repeat' (with_reducible first | refine ⟨?_, ?_⟩ | intro _))
      all_goals first | omega | skip
      · rename_i h2
        exact k77 _ _ _ h1 rfl (by rw [if_pos h2])
      · rename_i h2
        exact k77 _ _ _ h1 rfl (by rw [if_neg (by omega)])
    · refine s_X11_changed_27 ?_
      (repeat' (with_reducible first | refine ⟨?_, ?_⟩ | intro _))
      all_goals first | omega | skip
      all_goals exact k111 _ _ _ h1 rfl (by first | (rw [if_pos (by omega)]) | (rw [if_neg (by omega), if_pos (by omega)]) | (rw [if_neg (by omega), if_neg (by omega)]))
  refine s_X11_changed ?_
  (repeat' (with_reducible first | refine ⟨?_, ?_⟩ | intro _))
  all_goals first | omega | exact k27 _ (fun h => rfl) | exact k27 _ (fun h => by omega)
theorem kb_eq {so so' : Int → Int} {kd kd' : Int → Int → Int} {p c q k : Int} (hs : so' q = so q) (hk : 0 ≤ k ∧ k ≤ 2) (h2 : q = p → c = 0 → so q ≠ 5 → k ≤ 1) (hd : ∀ j, 0 ≤ j → j ≤ 2 → kd' q j = kd q j) : kb so' kd' p c q k = kb so kd p c q k := by
  unfold kb
  rw [hs]
  by_cases e5 : so q = 5
  · rw [if_pos e5, if_pos e5]
    by_cases k0 : k = 0
    · rw [if_pos k0, if_pos k0]; exact hd 0 (by omega) (by omega)
    · rw [if_neg k0, if_neg k0]
      by_cases e : q = p ∧ c = 0
      · rw [if_pos e, if_pos e]; exact hd _ (by omega) (by omega)
      · rw [if_neg e, if_neg e]; exact hd _ hk.1 hk.2
  · rw [if_neg e5, if_neg e5]
    by_cases e : q = p ∧ c = 0
    · rw [if_pos e, if_pos e]
      have := h2 e.1 e.2 e5
      exact hd _ (by omega) (by omega)
    · rw [if_neg e, if_neg e]; exact hd _ hk.1 hk.2
/-- bank b' of s' holds the program of bank b of s -/
def WQ (s : ST) (b : Int) (s' : ST) (b' : Int) : Prop := (s'.1 142 b' = s.1 142 b ∧ s'.1 143 b' = s.1 143 b ∧ s'.1 144 b' = s.1 144 b) ∧ (∀ i, 0 ≤ i → i < 8 → s'.1 145 (8 * b' + i) = s.1 145 (8 * b + i)) ∧ (∀ i, 0 ≤ i → i < 20 → s'.1 156 (20 * b' + i) = s.1 156 (20 * b + i)) ∧ (∀ i, 0 ≤ i → i < 40 → (s'.1 146 (40 * b' + i) = s.1 146 (40 * b + i) ∧ s'.1 149 (40 * b' + i) = s.1 149 (40 * b + i) ∧ s'.1 150 (40 * b' + i) = s.1 150 (40 * b + i) ∧ s'.1 151 (40 * b' + i) = s.1 151 (40 * b + i) ∧ s'.1 153 (40 * b' + i) = s.1 153 (40 * b + i) ∧ s'.1 154 (40 * b' + i) = s.1 154 (40 * b + i) ∧ s'.1 155 (40 * b' + i) = s.1 155 (40 * b + i)) ∧ ∀ k, 0 ≤ k → k < 3 → s'.1 152 (3 * (40 * b' + i) + k) = s.1 152 (3 * (40 * b + i) + k))
theorem WQ.rf {s : ST} {b : Int} : WQ s b s b := ⟨⟨rfl, rfl, rfl⟩, fun _ _ _ => rfl, fun _ _ _ => rfl, fun _ _ _ => ⟨⟨rfl, rfl, rfl, rfl, rfl, rfl, rfl⟩, fun _ _ _ => rfl⟩⟩
theorem WQ.tr {s s' s'' : ST} {b b' b'' : Int} (h : WQ s b s' b') (k : WQ s' b' s'' b'') : WQ s b s'' b'' := by
  obtain ⟨⟨a1, a2, a3⟩, a4, a5, a6⟩ := h
  obtain ⟨⟨b1, b2, b3⟩, b4, b5, b6⟩ := k
  refine ⟨⟨b1.trans a1, b2.trans a2, b3.trans a3⟩, fun i i0 i1 => (b4 i i0 i1).trans (a4 i i0 i1), fun i i0 i1 => (b5 i i0 i1).trans (a5 i i0 i1), fun i i0 i1 => ?_⟩
  obtain ⟨⟨c1, c2, c3, c4, c5, c6, c7⟩, c8⟩ := a6 i i0 i1
  obtain ⟨⟨d1, d2, d3, d4, d5, d6, d7⟩, d8⟩ := b6 i i0 i1
  exact ⟨⟨d1.trans c1, d2.trans c2, d3.trans c3, d4.trans c4, d5.trans c5, d6.trans c6, d7.trans c7⟩, fun k k0 k1 => (d8 k k0 k1).trans (c8 k k0 k1)⟩
