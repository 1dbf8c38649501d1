/-! READING ALIKE: a place begun in the CLASS, exactly -/
def ADF (x x' : ST) (p idx u n : Int) : Prop := md [(18, 1)] [20, 21, 22, 23, 24, 25, 26, 27, 28, 29, 30, 31] x x' ∧ x'.1 18 1 = n + 1 ∧ (∀ z, z ≠ n → x'.1 21 z = x.1 21 z ∧ x'.1 23 z = x.1 23 z ∧ x'.1 26 z = x.1 26 z ∧ x'.1 29 z = x.1 29 z ∧ x'.2 28 z = x.2 28 z) ∧ (x'.1 23 n = u ∧ x'.1 26 n = p ∧ x'.1 29 n = -1) ∧ ((∀ z, ¬ (3 * n ≤ z ∧ z < 3 * n + 3) → (p < 0 ∨ z ≠ 3 * p + idx) → x'.1 27 z = x.1 27 z) ∧ (∀ j, 0 ≤ j → j < 3 → x'.1 27 (3 * n + j) = -1) ∧ (0 ≤ p → x'.1 27 (3 * p + idx) = n)) ∧ (∀ z, z ≠ u ∨ 0 ≤ p → x'.1 20 z = x.1 20 z) ∧ (p < 0 → x'.1 20 u = n)
section ADD
variable {x : ST} {p idx u n : Int}
def AD0 (x : ST) (p u n : Int) : ST := ui (ui (ui (ui (ui (ui (uj (ui (ui (ui (ui (ui (ui (ui x 18 1 (n + 1)) 21 n 10) 22 n 0) 23 n u) 24 n 0) 25 n 1) 26 n p) 28 n 0) 29 n (-1)) 30 n 0) 31 n 0) 27 (3 * n + 0) (-1)) 27 (3 * n + 1) (-1)) 27 (3 * n + 2) (-1)
theorem AD0_md : md [(18, 1)] [20, 21, 22, 23, 24, 25, 26, 27, 28, 29, 30, 31] x (AD0 x p u n) := by unfold AD0; exact (by repeat' (first | exact md.rf | assumption | refine md.ui ?_ ?_ | refine md.uj ?_ ?_ | exact Or.inr (by decide) | exact Or.inl (by decide)))
theorem AD0_z {z : Int} (h : z ≠ n) : (AD0 x p u n).1 21 z = x.1 21 z ∧ (AD0 x p u n).1 23 z = x.1 23 z ∧ (AD0 x p u n).1 26 z = x.1 26 z ∧ (AD0 x p u n).1 29 z = x.1 29 z ∧ (AD0 x p u n).2 28 z = x.2 28 z := by
  unfold AD0
  refine ⟨?_, ?_, ?_, ?_, ?_⟩
  · simp (disch := omega) only [ui_cell, ui_ne, uj_i]
  · simp (disch := omega) only [ui_cell, ui_ne, uj_i]
  · simp (disch := omega) only [ui_cell, ui_ne, uj_i]
  · simp (disch := omega) only [ui_cell, ui_ne, uj_i]
  · simp (disch := omega) only [ui_j, uj_ne]
theorem AD0_n : (AD0 x p u n).1 18 1 = n + 1 ∧ (AD0 x p u n).1 23 n = u ∧ (AD0 x p u n).1 26 n = p ∧ (AD0 x p u n).1 29 n = -1 := by
  unfold AD0
  refine ⟨?_, ?_, ?_, ?_⟩
  all_goals simp (disch := omega) only [ui_cell, ui_same, uj_i]
theorem AD0_27 : (∀ z, ¬ (3 * n ≤ z ∧ z < 3 * n + 3) → (AD0 x p u n).1 27 z = x.1 27 z) ∧ (∀ j, 0 ≤ j → j < 3 → (AD0 x p u n).1 27 (3 * n + j) = -1) := by
  unfold AD0
  refine ⟨fun z hz => ?_, fun j j0 j1 => ?_⟩
  · rw [ui_ne (by omega), ui_ne (by omega), ui_ne (by omega)]
    simp (disch := omega) only [ui_cell, uj_i]
  · by_cases c2 : j = 2
    · rw [c2, ui_same]
    · rw [ui_ne (by omega)]
      by_cases c1 : j = 1
      · rw [c1, ui_same]
      · rw [ui_ne (by omega), show j = 0 by omega, ui_same]
theorem AD0_20 (z : Int) : (AD0 x p u n).1 20 z = x.1 20 z := by
  unfold AD0
  simp (disch := omega) only [ui_cell, uj_i]
theorem AD0_k (ix : IX x) : KX x (AD0 x p u n) := by
  have f : ∀ {s : ST} {c : Nat} {z v : Int}, KX x s → (21 ≤ c ∧ c ≤ 31) → KX x (ui s c z v) := fun k hc => KX.ui k (by unfold freeC; omega)
  unfold AD0
  exact f (f (f (f (f (f (KX.uj (f (f (f (f (f (f (KX.ut (.rf ix) (Or.inr (Or.inl rfl))) (by omega)) (by omega)) (by omega)) (by omega)) (by omega)) (by omega))) (by omega)) (by omega)) (by omega)) (by omega)) (by omega)) (by omega)
theorem e_add {Q : ST → Int → Prop} (ix : IX x) (hn : x.1 18 1 = n) (h0 : 0 ≤ n ∧ n < 40) (hu : 0 ≤ u ∧ u < 8) (hp : p = -1 ∨ ((0 ≤ p ∧ p < n) ∧ (0 ≤ idx ∧ idx < 3))) (hQ : ∀ x', KX x x' → ADF x x' p idx u n → Q x' n) : C_X9_add 18 x p idx u Q := by
  have kz := AD0_k (p := p) (u := u) (n := n) ix
  have mz := AD0_md (x := x) (p := p) (u := u) (n := n)
  have zz := fun z (h : z ≠ n) => AD0_z (x := x) (p := p) (u := u) h
  have nz := AD0_n (x := x) (p := p) (u := u) (n := n)
  have z27 := AD0_27 (x := x) (p := p) (u := u) (n := n)
  have z20 := AD0_20 (x := x) (p := p) (u := u) (n := n)
  have e181 := nz.1
  have fin : K_X9_add_128 18 (AD0 x p u n) p idx u n 3 Q := by
    refine s_X9_add_128 ?_
    rw [e181]
    generalize AD0 x p u n = s1 at *
    (repeat' (with_reducible first | refine ⟨?_, ?_⟩ | intro _))
    all_goals first | omega | skip
    · refine hQ _ (KX.ui kz (by unfold freeC; omega)) ⟨mz.tr (by repeat' (first | exact md.rf | assumption | refine md.ui ?_ ?_ | refine md.uj ?_ ?_ | exact Or.inr (by decide) | exact Or.inl (by decide))), (ui_cell (by decide)).trans e181, fun z hz => zz z hz, ⟨nz.2.1, nz.2.2.1, nz.2.2.2⟩, ⟨fun z hz hz2 => ?_, fun j j0 j1 => ?_, fun _ => ui_same⟩, fun z _ => (ui_cell (by decide)).trans (z20 z), fun h => by omega⟩
      · rw [ui_ne (by omega)]; exact z27.1 z hz
      · rw [ui_ne (by omega)]; exact z27.2 j j0 j1
    · refine hQ _ (KX.ui kz (by unfold freeC; omega)) ⟨mz.tr (by repeat' (first | exact md.rf | assumption | refine md.ui ?_ ?_ | refine md.uj ?_ ?_ | exact Or.inr (by decide) | exact Or.inl (by decide))), (ui_cell (by decide)).trans e181, fun z hz => zz z hz, ⟨nz.2.1, nz.2.2.1, nz.2.2.2⟩, ⟨fun z hz hz2 => ?_, fun j j0 j1 => ?_, fun h => by omega⟩, fun z hz => ?_, fun _ => ui_same⟩
      · exact (ui_cell (by decide)).trans (z27.1 z hz)
      · exact (ui_cell (by decide)).trans (z27.2 j j0 j1)
      · rw [ui_ne (by omega)]; exact z20 z
  refine s_X9_add ?_
  rw [hn]
  (repeat' (with_reducible first | refine ⟨?_, ?_⟩ | intro _))
  all_goals first | omega | skip
  refine s_X9_add_128 ?_
  intros
  refine ⟨fun h => absurd h (by decide), fun _ => ⟨by unfold R32; omega, by unfold R32; omega, by omega, by decide, ?_⟩⟩
  refine s_X9_add_128 ?_
  intros
  refine ⟨fun h => absurd h (by decide), fun _ => ⟨by unfold R32; omega, by unfold R32; omega, by omega, by decide, ?_⟩⟩
  refine s_X9_add_128 ?_
  intros
  refine ⟨fun h => absurd h (by decide), fun _ => ⟨by unfold R32; omega, by unfold R32; omega, by omega, by decide, ?_⟩⟩
  exact fin
end ADD
