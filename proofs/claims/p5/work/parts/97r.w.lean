/-! THE REFERENCE: readWord, readKind -/
def fw (kC : Int → Int) (a : Int) : Nat → Int
  | 0 => 1
  | j + 1 => fw kC a j + (if kC (a + j) < 3 then -1 else if kC (a + j) = 3 then 0 else 1)
theorem fw_le (kC : Int → Int) (a : Int) : ∀ j : Nat, fw kC a j ≤ 1 + j := by
  intro j
  induction j with
  | zero => exact Int.le_refl 1
  | succ j ih =>
    show fw kC a j + _ ≤ _
    split
    · omega
    · split <;> omega
theorem fw_congr {kC kC' : Int → Int} {a : Int} : ∀ j : Nat, (∀ k, a ≤ k → k < a + j → kC' k = kC k) → fw kC' a j = fw kC a j := by
  intro j
  induction j with
  | zero => intro _; rfl
  | succ j ih =>
    intro h
    show fw kC' a j + _ = fw kC a j + _
    rw [ih (fun k k0 k1 => h k k0 (by omega)), h (a + j) (by omega) (by omega)]
theorem fw_hg {kC : Int → Int} {a : Int} {l : Nat} (h0 : fw kC a l = 0) : ∀ m : Nat, m ≤ l → hg kC (a + l) m = fw kC a (l - m) := by
  intro m
  induction m with
  | zero => intro _; rw [Nat.sub_zero, h0]; rfl
  | succ m ih =>
    intro hm
    have h1 := ih (by omega)
    have h2 : fw kC a (l - m) = fw kC a (l - (m + 1)) + (if kC (a + (l - (m + 1) : Nat)) < 3 then -1 else if kC (a + (l - (m + 1) : Nat)) = 3 then 0 else 1) := by
      rw [show l - m = (l - (m + 1)) + 1 by omega]; rfl
    show hg kC (a + l) m + _ = _
    rw [h1, h2, show a + (l : Int) - 1 - (m : Int) = a + ((l - (m + 1) : Nat) : Int) by omega]
    split
    · omega
    · split <;> omega
theorem fw_KW {kC : Int → Int} {a : Int} {l : Nat} (h0 : fw kC a l = 0) (h1 : ∀ j, j < l → 1 ≤ fw kC a j) : KW kC a l := by
  have step : ∀ m : Nat, m < l → fw kC a (l - m) = fw kC a (l - (m + 1)) + (if kC (a + l - 1 - m) < 3 then -1 else if kC (a + l - 1 - m) = 3 then 0 else 1) := by
    intro m hm
    rw [show l - m = (l - (m + 1)) + 1 by omega, show a + (l : Int) - 1 - (m : Int) = a + ((l - (m + 1) : Nat) : Int) by omega]
    rfl
  refine ⟨fun m hm => ?_, ?_⟩
  · have hs := step m (by omega)
    have h2 := h1 (l - (m + 1)) (by omega)
    rw [fw_hg h0 m (by omega)]
    constructor
    · intro h3
      rw [if_neg (by omega), if_pos h3] at hs
      omega
    · intro h3
      rw [if_neg (by omega), if_neg (by omega)] at hs
      omega
  · rw [show ((l : Int)).toNat = l by omega, fw_hg h0 l (Nat.le_refl l), Nat.sub_self]
    exact Int.le_refl 1
theorem kindHere_le (s : ST) : F_X11_kindHere s ≤ 5 := by
  unfold F_X11_kindHere
  repeat' split
  all_goals omega
theorem c_X11_readWord {s : ST} {b g : Int} {Q : ST → Prop} (hg : 40 * b ≤ g ∧ g < 40 * b + 40) (hb : 0 ≤ b ∧ b ≤ 1) (hc : RDC s) (hQ : ∀ s', md mF [158] s s' → RM b s s' → RDC s' → (s.1 139 4 ≠ 0 → s'.1 139 4 ≠ 0) → Q s') : C_X11_readWord s g Q := by
  have k24 : ∀ t, K_X11_readWord_24 (uj s 158 g (s.2 139 10)) t Q := fun t => s_X11_readWord_24 fun _ _ => c_X11_must hc fun s' m' r' f' => hQ s' ((show md mF [158] s (uj s 158 g (s.2 139 10)) from (by repeat' (first | exact md.rf | assumption | refine md.ui ?_ ?_ | refine md.uj ?_ ?_ | exact Or.inr (by decide) | exact Or.inl (by decide)))).tr (m'.mono (by decide) (by decide))) ((RM.rf.uj (by unfold RW; omega)).tr (RM.md m' (by decide))) r' f'
  refine s_X11_readWord ?_
  (repeat' (with_reducible first | refine ⟨?_, ?_⟩ | intro _))
  all_goals first | omega | exact k24 _
/-- readKind underway -/
def I17 (s0 s : ST) (b g a2 : Int) : Prop := md mF [144, 154, 155, 156] s0 s ∧ RM b s0 s ∧ RDC s ∧ (∀ z, z ≠ g → s.1 154 z = s0.1 154 z ∧ s.1 155 z = s0.1 155 z) ∧ s.1 154 g = s0.1 144 b ∧ (s0.1 144 b ≤ s.1 144 b ∧ s.1 144 b ≤ 20) ∧ (∀ k, k < s0.1 144 b → s.1 156 (20 * b + k) = s0.1 156 (20 * b + k)) ∧ (∀ k, 0 ≤ k → k < s.1 144 b → 0 ≤ s.1 156 (20 * b + k) ∧ s.1 156 (20 * b + k) ≤ 5) ∧ (s.1 139 4 = 0 → fw (bkC s b) (s0.1 144 b) (s.1 144 b - s0.1 144 b).toNat = a2 ∧ ∀ j : Nat, j < (s.1 144 b - s0.1 144 b).toNat → 1 ≤ fw (bkC s b) (s0.1 144 b) j)
/-- what readKind leaves -/
def RK (s0 s : ST) (b g : Int) : Prop := md mF [144, 154, 155, 156] s0 s ∧ RM b s0 s ∧ RDC s ∧ (∀ z, z ≠ g → s.1 154 z = s0.1 154 z ∧ s.1 155 z = s0.1 155 z) ∧ (s0.1 144 b ≤ s.1 144 b ∧ s.1 144 b ≤ 20) ∧ (∀ k, k < s0.1 144 b → s.1 156 (20 * b + k) = s0.1 156 (20 * b + k)) ∧ (∀ k, 0 ≤ k → k < s.1 144 b → 0 ≤ s.1 156 (20 * b + k) ∧ s.1 156 (20 * b + k) ≤ 5) ∧ (s.1 139 4 = 0 → (0 ≤ s.1 154 g ∧ 1 ≤ s.1 155 g ∧ s.1 154 g + s.1 155 g ≤ s.1 144 b) ∧ KW (bkC s b) (s.1 154 g) (s.1 155 g))
theorem c_X11_readKind {s0 : ST} {b g : Int} {Q : ST → Prop} (hg : 40 * b ≤ g ∧ g < 40 * b + 40) (hb : 0 ≤ b ∧ b ≤ 1) (h29 : s0.1 139 29 = b) (hc : RDC s0) (hK : 0 ≤ s0.1 144 b ∧ s0.1 144 b ≤ 20) (hC : ∀ k, 0 ≤ k → k < s0.1 144 b → 0 ≤ s0.1 156 (20 * b + k) ∧ s0.1 156 (20 * b + k) ≤ 5) (hQ : ∀ s', RK s0 s' b g → Q s') : C_X11_readKind s0 g Q := by
  have k128 : ∀ s a2, I17 s0 s b g a2 → (s.1 139 4 = 0 → a2 ≤ 0) → K_X11_readKind_128 s g Q := by
    intro s a2 hi ha
    obtain ⟨i1, i2, i3, i4, i5, i6, i7, i8, i9⟩ := hi
    have f29 := i1.f 139 29 (by decide) (by decide)
    refine s_X11_readKind_128 ?_
    rw [f29, h29]
    (repeat' (with_reducible first | refine ⟨?_, ?_⟩ | intro _))
    all_goals first | omega | skip
    have e54 : ∀ z, (ui s 155 g (s.1 144 b - s.1 154 g)).1 154 z = s.1 154 z := fun z => ui_cell (by decide)
    have e44 : (ui s 155 g (s.1 144 b - s.1 154 g)).1 144 b = s.1 144 b := ui_cell (by decide)
    have e56 : ∀ z, (ui s 155 g (s.1 144 b - s.1 154 g)).1 156 z = s.1 156 z := fun z => ui_cell (by decide)
    have e56b : bkC (ui s 155 g (s.1 144 b - s.1 154 g)) b = bkC s b := funext fun k => e56 _
    have e55 : (ui s 155 g (s.1 144 b - s.1 154 g)).1 155 g = s.1 144 b - s.1 154 g := ui_same
    have e4 : (ui s 155 g (s.1 144 b - s.1 154 g)).1 139 4 = s.1 139 4 := ui_cell (by decide)
    refine hQ _ ⟨(by repeat' (first | exact md.rf | assumption | refine md.ui ?_ ?_ | refine md.uj ?_ ?_ | exact Or.inr (by decide) | exact Or.inl (by decide))), i2.ui (by unfold RW; omega), i3.keep (show md [] [155] s (ui s 155 g (s.1 144 b - s.1 154 g)) from (by repeat' (first | exact md.rf | assumption | refine md.ui ?_ ?_ | refine md.uj ?_ ?_ | exact Or.inr (by decide) | exact Or.inl (by decide)))) (by decide) (by decide), fun z hz => ⟨?_, ?_⟩, by rw [e44]; exact i6, fun k hk => by rw [e56]; exact i7 k hk, fun k k0 k1 => by rw [e44] at k1; rw [e56]; exact i8 k k0 k1, fun h4 => ?_⟩
    · rw [e54]; exact (i4 z hz).1
    · rw [ui_ne hz]; exact (i4 z hz).2
    · rw [e4] at h4
      obtain ⟨j1, j2⟩ := i9 h4
      have ha2 := ha h4
      rw [e56b, e54, e55, e44, i5]
      have hz : fw (bkC s b) (s0.1 144 b) (s.1 144 b - s0.1 144 b).toNat = 0 := by
        by_cases c : (s.1 144 b - s0.1 144 b).toNat = 0
        · rw [c] at j1
          have : (1 : Int) = a2 := j1
          omega
        · obtain ⟨l, hl⟩ : ∃ l : Nat, (s.1 144 b - s0.1 144 b).toNat = l + 1 := ⟨(s.1 144 b - s0.1 144 b).toNat - 1, by omega⟩
          have h1 := j2 l (by omega)
          rw [hl] at j1 ⊢
          have h2 : fw (bkC s b) (s0.1 144 b) (l + 1) = fw (bkC s b) (s0.1 144 b) l + (if bkC s b (s0.1 144 b + l) < 3 then -1 else if bkC s b (s0.1 144 b + l) = 3 then 0 else 1) := rfl
          have h3 : (-1 : Int) ≤ (if bkC s b (s0.1 144 b + l) < 3 then -1 else if bkC s b (s0.1 144 b + l) = 3 then 0 else 1) := by
            split
            · omega
            · split <;> omega
          omega
      have hpos : 1 ≤ s.1 144 b - s0.1 144 b := by
        by_cases c : (s.1 144 b - s0.1 144 b).toNat = 0
        · rw [c] at hz
          exact absurd (show (1 : Int) = 0 from hz) (by decide)
        · omega
      refine ⟨by omega, ?_⟩
      have := fw_KW hz j2
      rw [show ((s.1 144 b - s0.1 144 b).toNat : Int) = s.1 144 b - s0.1 144 b by omega] at this
      exact this
  have k17 : ∀ (n : Nat) (s : ST) (a2 : Int), 20 - s.1 144 b = (n : Int) → I17 s0 s b g a2 → K_X11_readKind_17 s g a2 Q := by
    intro n
    induction n with
    | zero =>
      intro s a2 hn hi
      obtain ⟨i1, i2, i3, i4, i5, i6, i7, i8, i9⟩ := id hi
      have f29 := i1.f 139 29 (by decide) (by decide)
      have k51 : K_X11_readKind_51 s g a2 (F_X11_kindHere s) Q := by
        refine s_X11_readKind_51 fun _ _ _ _ => c_X11_misplaced fun s' m' h' => s_X11_readKind_55 fun _ _ _ _ => ⟨fun h => absurd h h', fun _ => ?_⟩
        refine hQ s' ⟨i1.tr (m'.mono (by decide) (by decide)), i2.tr (RM.md m' (by decide)), i3.keep m' (by decide) (by decide), fun z hz => ?_, ?_, fun k hk => ?_, fun k k0 k1 => ?_, fun h => absurd h h'⟩
        · rw [m'.c 154 (by decide) (by decide), m'.c 155 (by decide) (by decide)]; exact i4 z hz
        · rw [m'.c 144 (by decide) (by decide)]; exact i6
        · rw [m'.c 156 (by decide) (by decide)]; exact i7 k hk
        · rw [m'.c 144 (by decide) (by decide)] at k1
          rw [m'.c 156 (by decide) (by decide)]; exact i8 k k0 k1
      refine s_X11_readKind_17 ?_
      rw [f29, h29]
      (repeat' (with_reducible first | refine ⟨?_, ?_⟩ | intro _))
      all_goals first | omega | exact k51 | exact k128 s a2 hi (fun h => by omega) | skip
    | succ n ih =>
      intro s a2 hn hi
      obtain ⟨i1, i2, i3, i4, i5, i6, i7, i8, i9⟩ := id hi
      have f29 := i1.f 139 29 (by decide) (by decide)
      have k51 : K_X11_readKind_51 s g a2 (F_X11_kindHere s) Q := by
        refine s_X11_readKind_51 fun _ _ _ _ => c_X11_misplaced fun s' m' h' => s_X11_readKind_55 fun _ _ _ _ => ⟨fun h => absurd h h', fun _ => ?_⟩
        refine hQ s' ⟨i1.tr (m'.mono (by decide) (by decide)), i2.tr (RM.md m' (by decide)), i3.keep m' (by decide) (by decide), fun z hz => ?_, ?_, fun k hk => ?_, fun k k0 k1 => ?_, fun h => absurd h h'⟩
        · rw [m'.c 154 (by decide) (by decide), m'.c 155 (by decide) (by decide)]; exact i4 z hz
        · rw [m'.c 144 (by decide) (by decide)]; exact i6
        · rw [m'.c 156 (by decide) (by decide)]; exact i7 k hk
        · rw [m'.c 144 (by decide) (by decide)] at k1
          rw [m'.c 156 (by decide) (by decide)]; exact i8 k k0 k1
      have hle := kindHere_le s
      have k55 : s.1 139 4 = 0 → 1 ≤ a2 → 0 ≤ F_X11_kindHere s → K_X11_readKind_55 s g a2 (F_X11_kindHere s) Q := by
        intro h4 ha2 hk0
        obtain ⟨j1, j2⟩ := i9 h4
        have hfl := fw_le (bkC s b) (s0.1 144 b) (s.1 144 b - s0.1 144 b).toNat
        generalize F_X11_kindHere s = kh at *
        have k119 : ∀ t, t = (if kh < 3 then -1 else if kh = 3 then 0 else 1) → K_X11_readKind_119 (ui (ui s 156 (20 * b + s.1 144 b) kh) 144 b (s.1 144 b + 1)) g a2 t Q := by
          intro t ht
          have hrt : -1 ≤ t ∧ t ≤ 1 := by
            rw [ht]
            split
            · omega
            · split <;> omega
          have m1 : md [] [144, 156] s (ui (ui s 156 (20 * b + s.1 144 b) kh) 144 b (s.1 144 b + 1)) := (by repeat' (first | exact md.rf | assumption | refine md.ui ?_ ?_ | refine md.uj ?_ ?_ | exact Or.inr (by decide) | exact Or.inl (by decide)))
          have r1 : RM b s (ui (ui s 156 (20 * b + s.1 144 b) kh) 144 b (s.1 144 b + 1)) := (RM.rf.ui (by unfold RW; omega)).ui (by unfold RW; omega)
          have e44 : (ui (ui s 156 (20 * b + s.1 144 b) kh) 144 b (s.1 144 b + 1)).1 144 b = s.1 144 b + 1 := ui_same
          have e56 : ∀ k, k ≠ s.1 144 b → (ui (ui s 156 (20 * b + s.1 144 b) kh) 144 b (s.1 144 b + 1)).1 156 (20 * b + k) = s.1 156 (20 * b + k) := fun k hk => by rw [ui_cell (by decide), ui_ne (by omega)]
          have e56n : (ui (ui s 156 (20 * b + s.1 144 b) kh) 144 b (s.1 144 b + 1)).1 156 (20 * b + s.1 144 b) = kh := by rw [ui_cell (by decide), ui_same]
          refine s_X11_readKind_119 fun _ _ _ _ => ⟨by omega, ?_⟩
          generalize ui (ui s 156 (20 * b + s.1 144 b) kh) 144 b (s.1 144 b + 1) = s1 at *
          refine c_X11_goOn (i3.keep m1 (by decide) (by decide)) fun s2 m2 c2 => ?_
          have g44 : s2.1 144 b = s.1 144 b + 1 := by rw [m2.c 144 (by decide) (by decide)]; exact e44
          have g56 : ∀ k, s2.1 156 (20 * b + k) = s1.1 156 (20 * b + k) := fun k => m2.c 156 (by decide) (by decide) _
          refine ih s2 (a2 + t) (by omega) ⟨(i1.tr (m1.mono (by decide) (by decide))).tr (m2.mono (by decide) (by decide)), (i2.tr r1).tr (RM.md m2 (by decide)), c2, fun z hz => ?_, ?_, by omega, fun k hk => ?_, fun k k0 k1 => ?_, fun _ => ?_⟩
          · rw [m2.c 154 (by decide) (by decide), m2.c 155 (by decide) (by decide), m1.c 154 (by decide) (by decide), m1.c 155 (by decide) (by decide)]; exact i4 z hz
          · rw [m2.c 154 (by decide) (by decide), m1.c 154 (by decide) (by decide)]; exact i5
          · rw [g56, e56 k (by omega)]; exact i7 k hk
          · rw [g56]
            by_cases c : k = s.1 144 b
            · rw [c, e56n]; omega
            · rw [e56 k c]; exact i8 k k0 (by omega)
          · have hcg : ∀ j : Nat, j ≤ (s.1 144 b - s0.1 144 b).toNat → fw (bkC s2 b) (s0.1 144 b) j = fw (bkC s b) (s0.1 144 b) j := fun j hj => fw_congr j fun k k0 k1 => (g56 k).trans (e56 k (by omega))
            rw [g44, show (s.1 144 b + 1 - s0.1 144 b).toNat = (s.1 144 b - s0.1 144 b).toNat + 1 by omega]
            constructor
            · show fw (bkC s2 b) (s0.1 144 b) (s.1 144 b - s0.1 144 b).toNat + _ = _
              rw [hcg _ (Nat.le_refl _), j1, show bkC s2 b (s0.1 144 b + ((s.1 144 b - s0.1 144 b).toNat : Int)) = kh by
                show s2.1 156 (20 * b + (s0.1 144 b + ((s.1 144 b - s0.1 144 b).toNat : Int))) = kh
                rw [show s0.1 144 b + ((s.1 144 b - s0.1 144 b).toNat : Int) = s.1 144 b by omega, g56]; exact e56n, ← ht]
            · intro j hj
              rw [hcg j (by omega)]
              by_cases c : j = (s.1 144 b - s0.1 144 b).toNat
              · rw [c, j1]; exact ha2
              · exact j2 j (by omega)
        refine s_X11_readKind_55 ?_
        rw [f29, h29]
        (repeat' (with_reducible first | refine ⟨?_, ?_⟩ | intro _))
        all_goals first | omega | skip
        · exact k119 _ (by rw [if_neg (by omega), if_neg (by omega)])
        · exact k119 _ (by rw [if_neg (by omega), if_pos (by omega)])
        · exact k119 _ (by rw [if_pos (by omega)])
      refine s_X11_readKind_17 ?_
      rw [f29, h29]
      (repeat' (with_reducible first | refine ⟨?_, ?_⟩ | intro _))
      all_goals first | omega | exact k51 | exact k128 s a2 hi (fun h => by omega) | exact k55 (by omega) (by omega) (by omega) | skip
  refine s_X11_readKind ?_
  rw [h29]
  (repeat' (with_reducible first | refine ⟨?_, ?_⟩ | intro _))
  all_goals first | omega | skip
  have m1 : md [] [154] s0 (ui s0 154 g (s0.1 144 b)) := (by repeat' (first | exact md.rf | assumption | refine md.ui ?_ ?_ | refine md.uj ?_ ?_ | exact Or.inr (by decide) | exact Or.inl (by decide)))
  have e44 : (ui s0 154 g (s0.1 144 b)).1 144 b = s0.1 144 b := ui_cell (by decide)
  have e56 : ∀ z, (ui s0 154 g (s0.1 144 b)).1 156 z = s0.1 156 z := fun z => ui_cell (by decide)
  refine k17 (20 - s0.1 144 b).toNat _ 1 (by rw [e44]; omega) ⟨(by repeat' (first | exact md.rf | assumption | refine md.ui ?_ ?_ | refine md.uj ?_ ?_ | exact Or.inr (by decide) | exact Or.inl (by decide))), RM.rf.ui (by unfold RW; omega), hc.keep m1 (by decide) (by decide), fun z hz => ⟨ui_ne hz, ui_cell (by decide)⟩, ui_same, by rw [e44]; omega, fun k _ => e56 _, fun k k0 k1 => by rw [e56]; exact hC k k0 (by rw [e44] at k1; exact k1), fun _ => ?_⟩
  rw [e44, show (s0.1 144 b - s0.1 144 b).toNat = 0 by omega]
  exact ⟨rfl, fun j hj => absurd hj (by omega)⟩
