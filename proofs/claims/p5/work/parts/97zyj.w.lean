/-! READING ALIKE: beginPlace in the CLASS, exactly -/
def BPF (x x' : ST) (p n so t0 : Int) : Prop := md [(18, 1)] [20, 21, 22, 23, 24, 25, 26, 27, 28, 29, 30, 31, 48, 49] x x' ∧ x'.1 18 1 = n + 1 ∧ (∀ z, z ≠ n → x'.1 21 z = x.1 21 z ∧ x'.1 23 z = x.1 23 z ∧ x'.1 26 z = x.1 26 z ∧ x'.1 29 z = x.1 29 z ∧ x'.2 28 z = x.2 28 z ∧ x'.1 49 z = x.1 49 z) ∧ (x'.1 21 n = so ∧ x'.1 23 n = x.1 18 0 - 1 ∧ x'.1 26 n = p ∧ x'.1 29 n = -1 ∧ x'.1 49 n = t0 ∧ x'.1 48 n = 0) ∧ ((∀ z, ¬ (3 * n ≤ z ∧ z < 3 * n + 3) → (p < 0 ∨ z ≠ 3 * p + x.1 48 p) → x'.1 27 z = x.1 27 z) ∧ (∀ j, 0 ≤ j → j < 3 → x'.1 27 (3 * n + j) = -1) ∧ (0 ≤ p → x'.1 27 (3 * p + x.1 48 p) = n)) ∧ ((∀ z, z ≠ x.1 18 0 - 1 ∨ 0 ≤ p → x'.1 20 z = x.1 20 z) ∧ (p < 0 → x'.1 20 (x.1 18 0 - 1) = n)) ∧ (∀ z, z ≠ n → z ≠ p → x'.1 48 z = x.1 48 z) ∧ (0 ≤ p → x'.1 48 p = x.1 48 p + 1)
section BEG
variable {s0 x : ST} {p n : Int}
theorem e_beginPlace {Q : ST → Int → Prop} (k : KZ s0 x) (hn : x.1 18 1 = n) (h0 : 0 ≤ n ∧ n ≤ 40) (h180 : 1 ≤ x.1 18 0 ∧ x.1 18 0 ≤ 8) (hp : p = -1 ∨ ((0 ≤ p ∧ p < n) ∧ (0 ≤ x.1 48 p ∧ x.1 48 p < 3) ∧ (0 ≤ x.1 49 p ∧ x.1 49 p ≤ 20)))
    (hR : (F_X7_sortHere x = -1 ∨ 20 < (if p = -1 then 0 else x.1 49 p + 1) ∨ 40 ≤ n) → Q (FIS x (if x.1 46 5 = 4 then 1 else 2)) (-1))
    (hQ : F_X7_sortHere x ≠ -1 → (if p = -1 then 0 else x.1 49 p + 1) ≤ 20 → n < 40 → ∀ x', KZ s0 x' → BPF x x' p n (F_X7_sortHere x) (if p = -1 then 0 else x.1 49 p + 1) → Q x' n) : C_X7_beginPlace x p Q := by
  generalize ht : (if p = -1 then (0 : Int) else x.1 49 p + 1) = t0 at *
  have k56 : (F_X7_sortHere x = -1 ∨ 20 < t0 ∨ 40 ≤ n) → K_X7_beginPlace_56 x Q := by
    intro h
    refine s_X7_beginPlace_56 ?_
    (repeat' (with_reducible first | refine ⟨?_, ?_⟩ | intro _))
    exact m_refuse (hR h)
  have hasE : F_X9_has 18 x p = if p = -1 then 0 else 1 := by
    unfold F_X9_has
    rw [hn]
    by_cases c : p = -1
    · rw [if_pos c, if_pos (by omega)]
    · rw [if_neg c, if_neg (by omega), if_neg (by omega), if_neg (by omega)]
  have k127 : n < 40 → F_X7_sortHere x ≠ -1 → t0 ≤ 20 → ∀ x1 x2, KX x x1 → ADF x x1 p (x.1 48 p) (x.1 18 0 - 1) n → (p = -1 ∧ x2 = x1 ∨ 0 ≤ p ∧ x2 = ui x1 48 p (x1.1 48 p + 1)) → K_X7_beginPlace_127 x2 (F_X7_sortHere x) t0 n Q := by
    intro hn40 hso h20 x1 x2 k1 a1 hx2
    obtain ⟨a1, a2, a3, a4, a5, a6, a7⟩ := a1
    have e48 : ∀ z, x1.1 48 z = x.1 48 z := a1.c 48 (by decide) (by decide)
    have e49 : ∀ z, x1.1 49 z = x.1 49 z := a1.c 49 (by decide) (by decide)
    have k2 : KX x x2 := by
      rcases hx2 with ⟨_, rfl⟩ | ⟨_, rfl⟩
      · exact k1
      · exact KX_put k1 (by omega) (fun e => by omega) (fun e => by omega)
    have c2 : ∀ c, c ≠ 48 → ∀ z, x2.1 c z = x1.1 c z ∧ x2.2 c z = x1.2 c z := fun c hc z => by
      rcases hx2 with ⟨_, rfl⟩ | ⟨_, rfl⟩
      · exact ⟨rfl, rfl⟩
      · exact ⟨ui_cell hc, rfl⟩
    have m2 : md [(18, 1)] [20, 21, 22, 23, 24, 25, 26, 27, 28, 29, 30, 31, 48, 49] x x2 := by
      rcases hx2 with ⟨_, rfl⟩ | ⟨_, rfl⟩
      · exact a1.mono (by decide) (by decide)
      · exact (a1.mono (by decide) (by decide)).tr (by repeat' (first | exact md.rf | assumption | refine md.ui ?_ ?_ | refine md.uj ?_ ?_ | exact Or.inr (by decide) | exact Or.inl (by decide)))
    have d48 : (∀ z, z ≠ p → x2.1 48 z = x.1 48 z) ∧ (0 ≤ p → x2.1 48 p = x.1 48 p + 1) := by
      rcases hx2 with ⟨h, rfl⟩ | ⟨h, rfl⟩
      · exact ⟨fun z _ => e48 z, fun h' => by omega⟩
      · exact ⟨fun z hz => (ui_ne hz).trans (e48 z), fun _ => by rw [ui_same, e48]⟩
    refine s_X7_beginPlace_127 ?_
    (repeat' (with_reducible first | refine ⟨?_, ?_⟩ | intro _))
    all_goals first | omega | skip
    generalize hy : F_X7_valueHere _ _ = vy
    have kf : KX x (ui (ui (ui (ui (ui x2 48 n 0) 49 n t0) 21 n (F_X7_sortHere x)) 22 n (x2.1 46 6)) 24 n vy) := KX.ui (KX.ui (KX.ui (KX_put (KX_put k2 (by omega) (fun e => by omega) (fun e => by omega)) (by omega) (fun e => by omega) (fun e => by omega)) (by unfold freeC; omega)) (by unfold freeC; omega)) (by unfold freeC; omega)
    refine hQ hso h20 hn40 _ (k.kx kf) ⟨m2.tr (by repeat' (first | exact md.rf | assumption | refine md.ui ?_ ?_ | refine md.uj ?_ ?_ | exact Or.inr (by decide) | exact Or.inl (by decide))), ?_, fun z hz => ?_, ⟨?_, ?_, ?_, ?_, ?_, ?_⟩, ⟨fun z z1 z2 => ?_, fun j j0 j1 => ?_, fun h => ?_⟩, ⟨fun z hz => ?_, fun h => ?_⟩, fun z z1 z2 => ?_, fun h => ?_⟩
    · simp (disch := omega) only [ui_cell]; rw [(c2 18 (by decide) 1).1]; exact a2
    · obtain ⟨b1, b2, b3, b4, b5⟩ := a3 z hz
      refine ⟨?_, ?_, ?_, ?_, ?_, ?_⟩
      · simp (disch := omega) only [ui_cell, ui_ne]; rw [(c2 21 (by decide) z).1]; exact b1
      · simp (disch := omega) only [ui_cell]; rw [(c2 23 (by decide) z).1]; exact b2
      · simp (disch := omega) only [ui_cell]; rw [(c2 26 (by decide) z).1]; exact b3
      · simp (disch := omega) only [ui_cell]; rw [(c2 29 (by decide) z).1]; exact b4
      · simp (disch := omega) only [ui_j]; rw [(c2 28 (by decide) z).2]; exact b5
      · simp (disch := omega) only [ui_cell, ui_ne]; rw [(c2 49 (by decide) z).1]; exact e49 z
    · simp (disch := omega) only [ui_cell, ui_same]
    · simp (disch := omega) only [ui_cell]; rw [(c2 23 (by decide) n).1]; exact a4.1
    · simp (disch := omega) only [ui_cell]; rw [(c2 26 (by decide) n).1]; exact a4.2.1
    · simp (disch := omega) only [ui_cell]; rw [(c2 29 (by decide) n).1]; exact a4.2.2
    · simp (disch := omega) only [ui_cell, ui_same]
    · simp (disch := omega) only [ui_cell, ui_same]
    · simp (disch := omega) only [ui_cell]; rw [(c2 27 (by decide) z).1]; exact a5.1 z z1 z2
    · simp (disch := omega) only [ui_cell]; rw [(c2 27 (by decide) _).1]; exact a5.2.1 j j0 j1
    · simp (disch := omega) only [ui_cell]; rw [(c2 27 (by decide) _).1]; exact a5.2.2 h
    · simp (disch := omega) only [ui_cell]; rw [(c2 20 (by decide) z).1]; exact a6 z hz
    · simp (disch := omega) only [ui_cell]; rw [(c2 20 (by decide) _).1]; exact a7 h
    · simp (disch := omega) only [ui_cell, ui_ne]; exact d48.1 z z2
    · simp (disch := omega) only [ui_cell, ui_ne]; exact d48.2 h
  have k81 : n < 40 → F_X7_sortHere x ≠ -1 → t0 ≤ 20 → K_X7_beginPlace_81 x p (F_X7_sortHere x) (F_X9_has 18 x p) t0 p (if p = -1 then 0 else x.1 48 p) Q := by
    intro hn40 hso h20
    refine s_X7_beginPlace_81 ?_
    rw [hasE]
    (repeat' (with_reducible first | refine ⟨?_, ?_⟩ | intro _))
    all_goals first | omega | skip
    have idxE : p = -1 ∨ ((0 ≤ p ∧ p < n) ∧ (0 ≤ (if p = -1 then 0 else x.1 48 p) ∧ (if p = -1 then 0 else x.1 48 p) < 3)) := by
      rcases hp with h | ⟨h1, h2, _⟩
      · exact Or.inl h
      · rw [if_neg (by omega)]; exact Or.inr ⟨h1, h2⟩
    refine e_add k.1 hn ⟨h0.1, hn40⟩ (by omega) idxE fun x1 k1 a1 => ?_
    have a1' : ADF x x1 p (x.1 48 p) (x.1 18 0 - 1) n := by
      by_cases c : p = -1
      · obtain ⟨b1, b2, b3, b4, ⟨b5, b6, b7⟩, b8, b9⟩ := a1
        exact ⟨b1, b2, b3, b4, ⟨fun z z1 _ => b5 z z1 (Or.inl (by omega)), b6, fun h => by omega⟩, b8, b9⟩
      · rw [if_neg c] at a1; exact a1
    have e181 := a1.2.1
    have e48 : x1.1 48 p = x.1 48 p := a1.1.c 48 (by decide) (by decide) p
    rw [e181]
    (repeat' (with_reducible first | refine ⟨?_, ?_⟩ | intro _))
    all_goals first | omega | skip
    · exact k127 hn40 hso h20 x1 x1 k1 a1' (Or.inl ⟨by by_cases c : p = -1; exact c; exfalso; rw [if_neg c] at *; omega, rfl⟩)
    · exact k127 hn40 hso h20 x1 _ k1 a1' (Or.inr ⟨by by_cases c : p = -1; exfalso; rw [if_pos c] at *; omega; omega, rfl⟩)
  have k30 : K_X7_beginPlace_30 x p (F_X7_sortHere x) (F_X9_has 18 x p) t0 Q := by
    refine s_X7_beginPlace_30 ?_
    rw [hn]
    by_cases c : p = -1
    · rw [if_pos c] at k81
      (repeat' (with_reducible first | refine ⟨?_, ?_⟩ | intro _))
      all_goals first | omega | exact k56 (by omega) | exact k81 (by omega) (by omega) (by omega) | (exfalso; rw [hasE, if_pos c] at *; omega)
    · rw [if_neg c] at k81
      (repeat' (with_reducible first | refine ⟨?_, ?_⟩ | intro _))
      all_goals first | omega | exact k56 (by omega) | exact k81 (by omega) (by omega) (by omega) | (exfalso; rw [hasE, if_neg c] at *; omega)
  refine s_X7_beginPlace ?_
  rw [hn]
  by_cases c : p = -1
  · rw [if_pos c] at ht
    (repeat' (with_reducible first | refine ⟨?_, ?_⟩ | intro _))
    all_goals first | omega | (rw [ht]; exact k30)
  · rw [if_neg c] at ht
    (repeat' (with_reducible first | refine ⟨?_, ?_⟩ | intro _))
    all_goals first | omega | (rw [ht]; exact k30)
end BEG
