/-! READING ALIKE: a place more in both trees -/
section PUSHM
variable {s0 x x1 x' m m' s9 : ST} {b : Int} {k : Nat} {st : Int → Int} {n R so bi : Int} {nD : Nat}
theorem OPN_push (h59 : ∀ i : Int, i ≠ k → s9.1 159 i = m.1 159 i) (h59k : s9.1 159 k = n) {p : Int} (hp : p ≠ n) : OPN s9 ((k : Int) + 1) p ↔ OPN m k p := by
  constructor
  · rintro ⟨i, hi, e⟩
    by_cases c : i = (k : Int)
    · rw [c, h59k] at e; exact absurd e.symm hp
    · exact ⟨i, by omega, (h59 i c).symm.trans e⟩
  · rintro ⟨i, hi, e⟩
    exact ⟨i, by omega, (h59 i (by omega)).trans e⟩
theorem push_m (h : BEGR x m b k st n R nD) (cs : CSI s0 x k st n R nD) (hn : n < 40) (hk : k ≤ 20) (htop : 0 < k → x.1 48 (topOf k st) < 3) (hb : BPF x x1 (topOf k st) n so k) (hr : RSF x1 x' n) (p : PB1 m m' b n so bi) (e158 : ∀ z, z ≠ 40 * b + n → m'.2 158 z = m.2 158 z) (ok : OKR x' m') (e2 : x'.1 18 2 = m'.1 144 b) (hw : (so = 3 ∨ so = 4) → WR (x'.2 28 n) (m'.2 158 (40 * b + n))) (ht : so = 2 → TG (x'.1 29 n) bi) (hno : so ≠ 2 → x'.1 29 n = -1) (hs9 : s9 = ui (ui (ui m' 159 k n) 160 k 0) 139 32 ((k : Int) + 1)) (rp : RP s9 b ((k : Int) + 1) (n + 1) R nD (s9.1 144 b)) : BEGR x' s9 b (k + 1) (stp st k n) (n + 1) R nD := by
  obtain ⟨h1, ⟨h2, h3, h4, h5, h6⟩, h7, h8, h9, h10, h11, h12⟩ := h
  obtain ⟨_, ⟨c1, c2⟩, ⟨c3, c4⟩, c5, c6, c8⟩ := cs
  obtain ⟨b1, b2, b3, ⟨b4, b5, b6, b7, b8, b9⟩, ⟨b10, b11, b12⟩, ⟨b13, b14⟩, b15, b16⟩ := hb
  obtain ⟨r1, r2, r3⟩ := hr
  obtain ⟨p1, p2, p3, p4, ⟨p5, p6, p7, p8⟩, p9, p10, p11, p12⟩ := p
  have mG : md [(139, 32)] [159, 160] m' s9 := by rw [hs9]; exact (by repeat' (first | exact md.rf | assumption | refine md.ui ?_ ?_ | refine md.uj ?_ ?_ | exact Or.inr (by decide) | exact Or.inl (by decide)))
  have g32 : s9.1 139 32 = (k : Int) + 1 := by rw [hs9, ui_same]
  have g59 : ∀ i : Int, i ≠ k → s9.1 159 i = m.1 159 i := fun i hi => by rw [hs9, ui_cell (by decide), ui_cell (by decide), ui_ne hi]; exact p1.c 159 (by decide) (by decide) i
  have g59k : s9.1 159 k = n := by rw [hs9, ui_cell (by decide), ui_cell (by decide), ui_same]
  have g60 : ∀ i : Int, i ≠ k → s9.1 160 i = m.1 160 i := fun i hi => by rw [hs9, ui_cell (by decide), ui_ne hi, ui_cell (by decide)]; exact p1.c 160 (by decide) (by decide) i
  have g60k : s9.1 160 k = 0 := by rw [hs9, ui_cell (by decide), ui_same]
  have cX : ∀ a, a = 20 ∨ a = 21 ∨ a = 27 ∨ a = 48 → ∀ z, x'.1 a z = x1.1 a z := fun a ha z => (r1 a z (fun q => by simp only [rsF, xmF, xfF, xtF, List.cons_append, List.nil_append, List.mem_cons, Prod.mk.injEq, List.not_mem_nil, or_false] at q; omega) (fun q => by simp only [rsC, List.mem_cons, List.not_mem_nil, or_false] at q; omega)).1
  have hst : ∀ i : Int, 0 ≤ i → i < k → m.1 159 i = st i := fun i i0 i1 => (h12 i i0 i1).1
  have htp : 0 < k → topOf k st = st ((k : Int) - 1) := fun h => by unfold topOf; rw [if_neg (by omega)]
  have htz : k = 0 → topOf k st = -1 := fun h => by unfold topOf; rw [if_pos h]
  have tb : topOf k st = -1 ∨ (0 ≤ topOf k st ∧ topOf k st < n) := by
    by_cases k0 : k = 0
    · exact Or.inl (htz k0)
    · right; rw [htp (by omega)]; exact (c6.2 _ (by omega) (by omega)).1
  refine ⟨?_, ⟨h2, ?_, ?_, ?_, ?_⟩, ?_, rp, fun q q0 q1 => ?_, fun d d0 d1 => ⟨?_, ?_⟩, fun q j q0 q1 j0 hj => ?_, fun i i0 i1 => ?_⟩
  · obtain ⟨a1, a2, a3, a4, a5⟩ := ok
    refine ⟨a1.keep rfl rfl (mG.f 139 3 (by decide) (by decide)) (funext (mG.c 141 (by decide) (by decide))) rfl (mG.f 139 5 (by decide) (by decide)), a2.keep mG (by decide) (by decide), ?_, (mG.f 139 4 (by decide) (by decide)).trans a4, a5⟩
    unfold TKR at *
    rw [mG.f 139 6 (by decide) (by decide), mG.f 139 7 (by decide) (by decide), mG.f 139 8 (by decide) (by decide), mG.fj 139 10 (by decide) (by decide)]; exact a3
  · exact (mG.f 139 29 (by decide) (by decide)).trans ((p1.f 139 29 (by decide) (by decide)).trans h3)
  · rw [g32]; omega
  · exact (mG.c 142 (by decide) (by decide) b).trans p5
  · exact (mG.c 143 (by decide) (by decide) b).trans ((p1.c 143 (by decide) (by decide) b).trans h6)
  · rw [mG.c 144 (by decide) (by decide)]; exact e2
  · rw [cX 21 (by decide), mG.c 146 (by decide) (by decide), mG.c 153 (by decide) (by decide), mG.cj 158 (by decide) (by decide)]
    by_cases e : q = n
    · rw [e, b4, p6, p8]
      exact ⟨rfl, hw, ht, hno⟩
    · obtain ⟨z1, z2, z3, z4, z5, z6⟩ := b3 q e
      obtain ⟨y1, y2⟩ := r2 q e
      obtain ⟨w1, w2, w3, w4, w5⟩ := p4 (40 * b + q) (by omega)
      rw [z1, y1, z4, y2, z5, w1, w3, e158 _ (by omega)]
      exact h9 q q0 (by omega)
  · have e19 : x'.2 19 d = x.2 19 d := ((r1.cj 19 (by decide) (by decide) d).trans (b1.cj 19 (by decide) (by decide) d))
    rw [e19, mG.cj 157 (by decide) (by decide), p1.cj 157 (by decide) (by decide)]; exact (h10 d d0 d1).1
  · rw [cX 20 (by decide), b13 d (Or.inl (by omega)), mG.c 145 (by decide) (by decide), p1.c 145 (by decide) (by decide)]; exact (h10 d d0 d1).2
  · rw [cX 27 (by decide), mG.c 152 (by decide) (by decide), p1.c 152 (by decide) (by decide)]
    have har := ar_r (s9.1 146 (40 * b + q))
    by_cases e : q = n
    · exfalso
      rcases hj with ⟨ho, _⟩ | ⟨i, hi, e9, hj⟩
      · exact ho ⟨k, by omega, by rw [g59k, e]⟩
      · by_cases ek : i = (k : Int)
        · rw [ek, g60k] at hj; omega
        · rw [g59 i ek, hst i hi.1 (by omega)] at e9
          have := (c6.2 i hi.1 (by omega)).1; omega
    · have hj' : (¬ OPN m k q ∧ j < ar (m.1 146 (40 * b + q))) ∨ ∃ i : Int, (0 ≤ i ∧ i < k) ∧ m.1 159 i = q ∧ j < m.1 160 i := by
        rcases hj with ⟨ho, hj⟩ | ⟨i, hi, e9, hj⟩
        · left
          refine ⟨fun h => ho ((OPN_push g59 g59k e).mpr h), ?_⟩
          rw [mG.c 146 (by decide) (by decide), (p4 (40 * b + q) (by omega)).1] at hj; exact hj
        · by_cases ek : i = (k : Int)
          · rw [ek, g59k] at e9; exact absurd e9.symm e
          · exact Or.inr ⟨i, by omega, (g59 i ek).symm.trans e9, by rw [← g60 i ek]; exact hj⟩
      have j3 : j < 3 := by
        rcases hj' with ⟨_, h⟩ | ⟨i, hi, e9, h⟩
        · have := ar_r (m.1 146 (40 * b + q)); omega
        · have a := (h12 i hi.1 hi.2).2
          have c := (c6.2 i hi.1 hi.2).2.2.2.1
          split at a <;> omega
      rw [b10 _ (by omega) ?_]
      · exact h11 q j q0 (by omega) j0 hj'
      · rcases tb with t | ⟨t, t2⟩
        · exact Or.inl (by omega)
        · right
          have k0 : 0 < k := by
            by_cases c : k = 0
            · have := htz c; omega
            · omega
          have h3 := htop k0
          have ht48 := (c6.2 ((k : Int) - 1) (by omega) (by omega)).2.2.2.1.1
          rw [← htp k0] at ht48
          by_cases eq : q = topOf k st
          · have a := (h12 ((k : Int) - 1) (by omega) (by omega)).2
            rw [if_pos (by omega), ← htp k0] at a
            rcases hj' with ⟨ho, _⟩ | ⟨i, hi, e9, hjj⟩
            · exact absurd ⟨(k : Int) - 1, by omega, by rw [hst _ (by omega) (by omega), ← htp k0, eq]⟩ ho
            · rw [hst i hi.1 hi.2, eq, htp k0] at e9
              have := c6.inj hi.1 hi.2 (by omega) (by omega) e9
              rw [this] at hjj; omega
          · omega
  · by_cases ek : i = (k : Int)
    · have es : stp st k n i = n := by unfold stp; rw [if_pos ek]
      rw [es, ek, g59k, g60k, cX 48 (by decide), b9, if_pos (by omega)]
      exact ⟨rfl, rfl⟩
    · have es : stp st k n i = st i := by unfold stp; rw [if_neg ek]
      obtain ⟨a1, a2⟩ := h12 i i0 (by omega)
      rw [es, g59 i ek, g60 i ek, cX 48 (by decide), if_neg (by omega)]
      refine ⟨a1, ?_⟩
      have hi := (c6.2 i i0 (by omega)).1
      by_cases et : i = (k : Int) - 1
      · have etop : topOf k st = st i := by rw [htp (by omega), et]
        have := b16 (by rw [etop]; omega)
        rw [etop] at this
        rw [if_pos (by omega)] at a2
        omega
      · have enp : st i ≠ topOf k st := fun e => by
          rw [htp (by omega)] at e
          have := c6.inj i0 (by omega) (by omega) (by omega) e
          omega
        rw [b15 _ (by omega) enp, a2, if_neg (by omega)]
end PUSHM
