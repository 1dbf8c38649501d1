/-! READING ALIKE: a kind, side by side -/
section KINDS
theorem r_k128 {s0 s : ST} {b g a2 : Int} {Q : ST → Prop} (hg : 40 * b ≤ g ∧ g < 40 * b + 40) (hb : 0 ≤ b ∧ b ≤ 1) (h29 : s0.1 139 29 = b) (hK : 0 ≤ s0.1 144 b ∧ s0.1 144 b ≤ 20) (hi : I17 s0 s b g a2) (ha : s.1 139 4 = 0 → a2 ≤ 0) (hQ : ∀ s', md [] [155] s s' → RK s0 s' b g → Q s') : K_X11_readKind_128 s g Q := by
  obtain ⟨i1, i2, i3, i4, i5, i6, i7, i8, i9⟩ := hi
  have f29 := i1.f 139 29 (by decide) (by decide)
  refine s_X11_readKind_128 ?_
  rw [f29, h29]
  (repeat' (with_reducible first | refine ⟨?_, ?_⟩ | intro _))
  all_goals first | omega | skip
  have e54 : ∀ z, (ui s 155 g (s.1 144 b - s.1 154 g)).1 154 z = s.1 154 z := fun z => ui_cell (by decide)
  have e44 : (ui s 155 g (s.1 144 b - s.1 154 g)).1 144 b = s.1 144 b := ui_cell (by decide)
  have e56 : ∀ z, (ui s 155 g (s.1 144 b - s.1 154 g)).1 156 z = s.1 156 z := fun z => ui_cell (by decide)
  have e56b : bkC (ui s 155 g (s.1 144 b - s.1 154 g)) b = bkC s b := funext fun k => e56 _
  have e55 : (ui s 155 g (s.1 144 b - s.1 154 g)).1 155 g = s.1 144 b - s.1 154 g := ui_same
  have e4 : (ui s 155 g (s.1 144 b - s.1 154 g)).1 139 4 = s.1 139 4 := ui_cell (by decide)
  refine hQ _ (by repeat' (first | exact md.rf | assumption | refine md.ui ?_ ?_ | refine md.uj ?_ ?_ | exact Or.inr (by decide) | exact Or.inl (by decide))) ⟨(by repeat' (first | exact md.rf | assumption | refine md.ui ?_ ?_ | refine md.uj ?_ ?_ | exact Or.inr (by decide) | exact Or.inl (by decide))), i2.ui (by unfold RW; omega), i3.keep (show md [] [155] s (ui s 155 g (s.1 144 b - s.1 154 g)) from (by repeat' (first | exact md.rf | assumption | refine md.ui ?_ ?_ | refine md.uj ?_ ?_ | exact Or.inr (by decide) | exact Or.inl (by decide)))) (by decide) (by decide), fun z hz => ⟨?_, ?_⟩, by rw [e44]; exact i6, fun k hk => by rw [e56]; exact i7 k hk, fun k k0 k1 => by rw [e44] at k1; rw [e56]; exact i8 k k0 k1, fun h4 => ?_⟩
  · rw [e54]; exact (i4 z hz).1
  · rw [ui_ne hz]; exact (i4 z hz).2
  · rw [e4] at h4
    obtain ⟨j1, j2⟩ := i9 h4
    have ha2 := ha h4
    rw [e56b, e54, e55, e44, i5]
    have hz : fw (bkC s b) (s0.1 144 b) (s.1 144 b - s0.1 144 b).toNat = 0 := by
      by_cases c : (s.1 144 b - s0.1 144 b).toNat = 0
      · rw [c] at j1
        have : (1 : Int) = a2 := j1
        omega
      · obtain ⟨l, hl⟩ : ∃ l : Nat, (s.1 144 b - s0.1 144 b).toNat = l + 1 := ⟨(s.1 144 b - s0.1 144 b).toNat - 1, by omega⟩
        have h1 := j2 l (by omega)
        rw [hl] at j1 ⊢
        have h2 : fw (bkC s b) (s0.1 144 b) (l + 1) = fw (bkC s b) (s0.1 144 b) l + (if bkC s b (s0.1 144 b + l) < 3 then -1 else if bkC s b (s0.1 144 b + l) = 3 then 0 else 1) := rfl
        have h3 : (-1 : Int) ≤ (if bkC s b (s0.1 144 b + l) < 3 then -1 else if bkC s b (s0.1 144 b + l) = 3 then 0 else 1) := by
          split
          · omega
          · split <;> omega
        omega
    have hpos : 1 ≤ s.1 144 b - s0.1 144 b := by
      by_cases c : (s.1 144 b - s0.1 144 b).toNat = 0
      · rw [c] at hz
        exact absurd (show (1 : Int) = 0 from hz) (by decide)
      · omega
    refine ⟨by omega, ?_⟩
    have := fw_KW hz j2
    rw [show ((s.1 144 b - s0.1 144 b).toNat : Int) = s.1 144 b - s0.1 144 b by omega] at this
    exact this
theorem I17.err {s0 s s' : ST} {b g a2 : Int} (hi : I17 s0 s b g a2) (m' : md [(139, 4), (139, 5)] [] s s') (h' : s'.1 139 4 ≠ 0) : RK s0 s' b g := by
  obtain ⟨i1, i2, i3, i4, i5, i6, i7, i8, i9⟩ := id hi
  refine ⟨i1.tr (m'.mono (by decide) (by decide)), i2.tr (RM.md m' (by decide)), i3.keep m' (by decide) (by decide), fun z hz => ?_, ?_, fun k hk => ?_, fun k k0 k1 => ?_, fun h => absurd h h'⟩
  · rw [m'.c 154 (by decide) (by decide), m'.c 155 (by decide) (by decide)]; exact i4 z hz
  · rw [m'.c 144 (by decide) (by decide)]; exact i6
  · rw [m'.c 156 (by decide) (by decide)]; exact i7 k hk
  · rw [m'.c 144 (by decide) (by decide)] at k1
    rw [m'.c 156 (by decide) (by decide)]; exact i8 k k0 k1
theorem I17.step {s0 s s2 : ST} {b g a2 kh t : Int} (hg : 40 * b ≤ g ∧ g < 40 * b + 40) (hb : 0 ≤ b ∧ b ≤ 1) (hi : I17 s0 s b g a2) (h4 : s.1 139 4 = 0) (ha2 : 1 ≤ a2) (hk0 : 0 ≤ kh) (hle : kh ≤ 5) (h20 : s.1 144 b < 20) (hK : 0 ≤ s0.1 144 b) (ht : t = (if kh < 3 then -1 else if kh = 3 then 0 else 1)) (m2 : md gF [] (ui (ui s 156 (20 * b + s.1 144 b) kh) 144 b (s.1 144 b + 1)) s2) (c2 : RDC s2) : I17 s0 s2 b g (a2 + t) := by
  obtain ⟨i1, i2, i3, i4, i5, i6, i7, i8, i9⟩ := id hi
  obtain ⟨j1, j2⟩ := i9 h4
  have m1 : md [] [144, 156] s (ui (ui s 156 (20 * b + s.1 144 b) kh) 144 b (s.1 144 b + 1)) := (by repeat' (first | exact md.rf | assumption | refine md.ui ?_ ?_ | refine md.uj ?_ ?_ | exact Or.inr (by decide) | exact Or.inl (by decide)))
  have r1 : RM b s (ui (ui s 156 (20 * b + s.1 144 b) kh) 144 b (s.1 144 b + 1)) := (RM.rf.ui (by unfold RW; omega)).ui (by unfold RW; omega)
  have e44 : (ui (ui s 156 (20 * b + s.1 144 b) kh) 144 b (s.1 144 b + 1)).1 144 b = s.1 144 b + 1 := ui_same
  have e56 : ∀ k, k ≠ s.1 144 b → (ui (ui s 156 (20 * b + s.1 144 b) kh) 144 b (s.1 144 b + 1)).1 156 (20 * b + k) = s.1 156 (20 * b + k) := fun k hk => by rw [ui_cell (by decide), ui_ne (by omega)]
  have e56n : (ui (ui s 156 (20 * b + s.1 144 b) kh) 144 b (s.1 144 b + 1)).1 156 (20 * b + s.1 144 b) = kh := by rw [ui_cell (by decide), ui_same]
  generalize ui (ui s 156 (20 * b + s.1 144 b) kh) 144 b (s.1 144 b + 1) = s1 at *
  have g44 : s2.1 144 b = s.1 144 b + 1 := by rw [m2.c 144 (by decide) (by decide)]; exact e44
  have g56 : ∀ k, s2.1 156 (20 * b + k) = s1.1 156 (20 * b + k) := fun k => m2.c 156 (by decide) (by decide) _
  refine ⟨(i1.tr (m1.mono (by decide) (by decide))).tr (m2.mono (by decide) (by decide)), (i2.tr r1).tr (RM.md m2 (by decide)), c2, fun z hz => ?_, ?_, by omega, fun k hk => ?_, fun k k0 k1 => ?_, fun _ => ?_⟩
  · rw [m2.c 154 (by decide) (by decide), m2.c 155 (by decide) (by decide), m1.c 154 (by decide) (by decide), m1.c 155 (by decide) (by decide)]; exact i4 z hz
  · rw [m2.c 154 (by decide) (by decide), m1.c 154 (by decide) (by decide)]; exact i5
  · rw [g56, e56 k (by omega)]; exact i7 k hk
  · rw [g56]
    by_cases c : k = s.1 144 b
    · rw [c, e56n]; omega
    · rw [e56 k c]; exact i8 k k0 (by omega)
  · have hcg : ∀ j : Nat, j ≤ (s.1 144 b - s0.1 144 b).toNat → fw (bkC s2 b) (s0.1 144 b) j = fw (bkC s b) (s0.1 144 b) j := fun j hj => fw_congr j fun k k0 k1 => (g56 k).trans (e56 k (by omega))
    rw [g44, show (s.1 144 b + 1 - s0.1 144 b).toNat = (s.1 144 b - s0.1 144 b).toNat + 1 by omega]
    constructor
    · show fw (bkC s2 b) (s0.1 144 b) (s.1 144 b - s0.1 144 b).toNat + _ = _
      rw [hcg _ (Nat.le_refl _), j1, show bkC s2 b (s0.1 144 b + ((s.1 144 b - s0.1 144 b).toNat : Int)) = kh by
        show s2.1 156 (20 * b + (s0.1 144 b + ((s.1 144 b - s0.1 144 b).toNat : Int))) = kh
        rw [show s0.1 144 b + ((s.1 144 b - s0.1 144 b).toNat : Int) = s.1 144 b by omega, g56]; exact e56n, ← ht]
    · intro j hj
      rw [hcg j (by omega)]
      by_cases c : j = (s.1 144 b - s0.1 144 b).toNat
      · rw [c, j1]; exact ha2
      · exact j2 j (by omega)
end KINDS
