/-! READING ALIKE: a NAME means the same in both trees -/
section SCOPE
variable {s0 x x1 m : ST} {b : Int} {k : Nat} {st : Int → Int} {n R so : Int} {nD : Nat}
theorem topOf_r (cs : CST x k st n) : topOf k st = -1 ∧ k = 0 ∨ (0 < k ∧ topOf k st = st ((k : Int) - 1) ∧ (0 ≤ topOf k st ∧ topOf k st < n) ∧ x.1 49 (topOf k st) = (k : Int) - 1 ∧ 0 ≤ x.1 48 (topOf k st)) := by
  by_cases k0 : k = 0
  · left; unfold topOf; rw [if_pos k0]; exact ⟨rfl, k0⟩
  · right
    have e : topOf k st = st ((k : Int) - 1) := by unfold topOf; rw [if_neg k0]
    obtain ⟨d1, d2, d3, d4, _⟩ := cs.2 ((k : Int) - 1) (by omega) (by omega)
    rw [e]
    exact ⟨by omega, rfl, d1, d3, d4.1⟩
theorem slot_same (cs : CST x k st n) (hb : BPF x x1 (topOf k st) n so k) (hw : 0 < k → x.1 48 (topOf k st) < 3) {i : Int} (i0 : 0 ≤ i) (i1 : i < k) {j : Int} (j0 : 0 ≤ j) (j1 : j < 3) (hne : i = (k : Int) - 1 → j ≠ x.1 48 (topOf k st)) : x1.1 27 (3 * st i + j) = x.1 27 (3 * st i + j) := by
  obtain ⟨b1, b2, b3, _, ⟨b10, b11, b12⟩, _⟩ := hb
  have hi := (cs.2 i i0 i1).1
  refine b10 _ (by omega) ?_
  rcases topOf_r cs with ⟨t, _⟩ | ⟨k0, t, tr, _, t48⟩
  · exact Or.inl (by omega)
  · right
    have h3 := hw k0
    by_cases e : i = (k : Int) - 1
    · have := hne e
      rw [t, ← e] at *; omega
    · have : st i ≠ topOf k st := fun ee => by
        rw [t] at ee
        exact e (cs.inj i0 i1 (by omega) (by omega) ee)
      omega
theorem sort2 (h : F_X7_sortHere x = 2) : x.1 46 5 = 1 ∧ x.1 46 9 = -1 := by
  unfold F_X7_sortHere at h
  split at h
  · omega
  · split at h
    · split at h
      · exact ⟨by assumption, by assumption⟩
      · split at h
        · split at h
          · omega
          · split at h <;> omega
        · omega
    · omega
theorem scope_alike (B : BEGR x m b k st n R nD) (cs : CSI s0 x k st n R nD) (hwt : 0 < k → x.1 48 (topOf k st) < ar (x.1 21 (topOf k st))) (hb : BPF x x1 (topOf k st) n so k) (hn : n < 40) (hs2 : F_X7_sortHere x = 2) :
    (CLS st (INX x1 k st n) k ++ DLS (x1.1 23 n).toNat).find? (fun a => decide (F_X9_wordOf 18 x1 a = x1.2 46 7)) = FND m b k nD := by
  obtain ⟨_, ⟨c1, c2⟩, ⟨c3, c4⟩, c5, c6, c8⟩ := id cs
  obtain ⟨h1, ⟨h2, h3, h4, h5, h6⟩, h7, h8, h9, h10, h11, h12⟩ := id B
  obtain ⟨b1, b2, b3, ⟨b4, b5, b6, b7, b8, b9⟩, ⟨b10, b11, b12⟩, ⟨b13, b14⟩, b15, b16⟩ := id hb
  have hw3 : 0 < k → x.1 48 (topOf k st) < 3 := fun h => by have := hwt h; have := ar_r (x.1 21 (topOf k st)); omega
  refine meant_alike c4 (by rw [b5]; omega) ((b1.f 18 0 (by decide) (by decide)).trans c3) b2 hn (fun i i0 i1 => ?_) (fun d d0 d1 => ?_) ?_
  · obtain ⟨d1, d2, d3, d4, d5, d6⟩ := c6.2 i i0 i1
    obtain ⟨a1, a2⟩ := h12 i i0 i1
    obtain ⟨z1, z2, z3, z4, z5, z6⟩ := b3 (st i) (by omega)
    obtain ⟨t1, t2, _⟩ := h9 (st i) (by omega) (by omega)
    rw [z1, z5]
    refine ⟨d1, a1, t1, t2, fun e4 => ?_⟩
    have hlt : m.1 160 i < 2 := by
      by_cases et : i = (k : Int) - 1
      · rcases topOf_r c6 with ⟨_, t⟩ | ⟨k0, t, _⟩
        · omega
        · have h := hwt k0
          rw [t, ← et] at h
          rw [if_pos (by omega)] at a2
          rw [e4] at h
          have : ar 4 = 2 := by decide
          omega
      · have h := (h8.2.2.2.1.2 i i0 i1).1.2.2 (by omega)
        rw [a1] at h
        have e : bso m b (st i) = 4 := by show m.1 146 (40 * b + st i) = 4; rw [← t1]; exact e4
        rw [e] at h
        have : ar 4 = 2 := by decide
        omega
    have hge : 0 ≤ chd k st n i := by
      unfold chd
      by_cases et : i + 1 = (k : Int)
      · rw [if_pos et]; omega
      · rw [if_neg et]; exact (c6.2 (i + 1) (by omega) (by omega)).1.1
    constructor
    · intro e
      by_cases c0 : m.1 160 i = 1
      · exact c0
      · exfalso
        have s48 : x.1 48 (st i) ≤ 1 := by
          rw [a2]
          have : m.1 160 i ≤ 0 := by omega
          split <;> omega
        rw [slot_same c6 hb hw3 i0 i1 (by omega) (by omega) (fun et => ?_), d6 1 s48 (by omega)] at e
        · omega
        · rcases topOf_r c6 with ⟨_, t⟩ | ⟨k0, t, _⟩
          · omega
          · rw [t, ← et, a2, if_pos (by omega)]; omega
    · intro e
      by_cases et : i = (k : Int) - 1
      · rcases topOf_r c6 with ⟨_, t⟩ | ⟨k0, t, tr, _⟩
        · omega
        · have h := b12 tr.1
          rw [t, ← et, a2, if_pos (by omega), e] at h
          rw [show (1 : Int) + 0 = 1 by omega] at h
          unfold chd; rw [if_pos (by omega)]; exact h
      · rw [slot_same c6 hb hw3 i0 i1 (by omega) (by omega) (fun h => absurd h et)]
        have h := (d5 (by omega)).2
        rw [a2, if_neg (by omega), e, show (1 : Int) + 1 - 1 = 1 by omega] at h
        unfold chd; rw [if_neg (by omega)]; exact h
  · rw [b1.cj 19 (by decide) (by decide)]; exact (h10 d d0 d1).1
  · rw [b1.fj 46 7 (by decide) (by decide)]; exact h1.tok.2.2.1 (sort2 hs2)
end SCOPE
