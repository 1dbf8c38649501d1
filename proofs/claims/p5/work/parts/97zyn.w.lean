/-! READING ALIKE: both trees, side by side -/
def TG (t v : Int) : Prop := (t < 40 ∧ v = t) ∨ (40 ≤ t ∧ v = t + 60)
def TRB (x m : ST) (b n : Int) : Prop := ∀ p, 0 ≤ p → p < n → x.1 21 p = m.1 146 (40 * b + p) ∧ ((x.1 21 p = 3 ∨ x.1 21 p = 4) → WR (x.2 28 p) (m.2 158 (40 * b + p))) ∧ (x.1 21 p = 2 → TG (x.1 29 p) (m.1 153 (40 * b + p))) ∧ (x.1 21 p ≠ 2 → x.1 29 p = -1)
def DFR (x m : ST) (b : Int) (nD : Nat) : Prop := ∀ d : Int, 0 ≤ d → d < nD → WR (x.2 19 d) (m.2 157 (8 * b + d)) ∧ x.1 20 d = m.1 145 (8 * b + d)
def KDR (x m : ST) (b n : Int) (k : Nat) : Prop := ∀ p j, 0 ≤ p → p < n → 0 ≤ j → ((¬ OPN m k p ∧ j < ar (m.1 146 (40 * b + p))) ∨ ∃ i : Int, (0 ≤ i ∧ i < k) ∧ m.1 159 i = p ∧ j < m.1 160 i) → x.1 27 (3 * p + j) = m.1 152 (3 * (40 * b + p) + j)
def STM (x m : ST) (k : Nat) (st : Int → Int) : Prop := ∀ i : Int, 0 ≤ i → i < k → m.1 159 i = st i ∧ x.1 48 (st i) = m.1 160 i + (if i + 1 = k then 0 else 1)
def CST (x : ST) (k : Nat) (st : Int → Int) (n : Int) : Prop := k ≤ 21 ∧ ∀ i : Int, 0 ≤ i → i < k → (0 ≤ st i ∧ st i < n) ∧ x.1 26 (st i) = (if i = 0 then -1 else st (i - 1)) ∧ x.1 49 (st i) = i ∧ (0 ≤ x.1 48 (st i) ∧ x.1 48 (st i) ≤ 3) ∧ (i + 1 < k → 1 ≤ x.1 48 (st i) ∧ x.1 27 (3 * st i + (x.1 48 (st i) - 1)) = st (i + 1)) ∧ ∀ j, x.1 48 (st i) ≤ j → j < 3 → x.1 27 (3 * st i + j) = -1
def CSI (s0 x : ST) (k : Nat) (st : Int → Int) (n R : Int) (nD : Nat) : Prop := (KZ s0 x ∧ PT x ∧ x.1 46 0 = 0) ∧ (x.1 18 1 = n ∧ (0 ≤ n ∧ n ≤ 40)) ∧ (x.1 18 0 = (nD : Int) + 1 ∧ nD ≤ 7) ∧ (0 ≤ x.1 18 2 ∧ x.1 18 2 ≤ 20) ∧ CST x k st n ∧ ((0 ≤ R ∧ R ≤ n) ∧ (k = 0 → n = R ∨ R < n) ∧ (0 < k → R < n) ∧ (R < n → x.1 20 nD = R))
def BEGR (x m : ST) (b : Int) (k : Nat) (st : Int → Int) (n R : Int) (nD : Nat) : Prop := OKR x m ∧ ((0 ≤ b ∧ b ≤ 1) ∧ m.1 139 29 = b ∧ m.1 139 32 = k ∧ m.1 142 b = n ∧ m.1 143 b = nD) ∧ x.1 18 2 = m.1 144 b ∧ RP m b k n R nD (m.1 144 b) ∧ TRB x m b n ∧ DFR x m b nD ∧ KDR x m b n k ∧ STM x m k st
def stp (st : Int → Int) (k : Nat) (n : Int) : Int → Int := fun i => if i = (k : Int) then n else st i
theorem CST.inj {x : ST} {k : Nat} {st : Int → Int} {n : Int} (h : CST x k st n) {i j : Int} (i0 : 0 ≤ i) (i1 : i < k) (j0 : 0 ≤ j) (j1 : j < k) (e : st i = st j) : i = j := by
  have a := (h.2 i i0 i1).2.2.1
  have c := (h.2 j j0 j1).2.2.1
  rw [e] at a; omega
section PUSHX
variable {s0 x x1 x' : ST} {k : Nat} {st : Int → Int} {n R so : Int} {nD : Nat}
def topOf (k : Nat) (st : Int → Int) : Int := if k = 0 then -1 else st ((k : Int) - 1)
theorem push_x (h : CSI s0 x k st n R nD) (hn : n < 40) (hk : k ≤ 20) (h0 : k = 0 → n = R) (htop : 0 < k → x.1 48 (topOf k st) < 3) (hb : BPF x x1 (topOf k st) n so k) (hr : RSF x1 x' n) (kz : KZ s0 x') (px : PT x') (f0 : x'.1 46 0 = 0) : CSI s0 x' (k + 1) (stp st k n) (n + 1) R nD := by
  obtain ⟨_, ⟨c1, c2⟩, ⟨c3, c4⟩, c5, ⟨c6, c7⟩, c8, c9, c10, c11⟩ := h
  obtain ⟨b1, b2, b3, ⟨b4, b5, b6, b7, b8, b9⟩, ⟨b10, b11, b12⟩, ⟨b13, b14⟩, b15, b16⟩ := hb
  obtain ⟨r1, r2, r3⟩ := hr
  have e18 : x'.1 18 1 = n + 1 := (r1.f 18 1 (by decide) (by decide)).trans b2
  have e180 : x'.1 18 0 = x.1 18 0 := (r1.f 18 0 (by decide) (by decide)).trans (b1.f 18 0 (by decide) (by decide))
  have c : ∀ a, a = 20 ∨ a = 21 ∨ a = 26 ∨ a = 27 ∨ a = 48 ∨ a = 49 → ∀ z, x'.1 a z = x1.1 a z := fun a ha z => (r1 a z (fun q => by simp only [rsF, xmF, xfF, xtF, List.cons_append, List.nil_append, List.mem_cons, Prod.mk.injEq, List.not_mem_nil, or_false] at q; omega) (fun q => by simp only [rsC, List.mem_cons, List.not_mem_nil, or_false] at q; omega)).1
  have c20 := c 20 (by decide)
  have c26 := c 26 (by decide)
  have c27 := c 27 (by decide)
  have c48 := c 48 (by decide)
  have c49 := c 49 (by decide)
  have htp : 0 < k → topOf k st = st ((k : Int) - 1) := fun h => by unfold topOf; rw [if_neg (by omega)]
  have htz : k = 0 → topOf k st = -1 := fun h => by unfold topOf; rw [if_pos h]
  refine ⟨⟨kz, px, f0⟩, ⟨e18, by omega⟩, ⟨e180.trans c3, c4⟩, r3, ⟨by omega, fun i i0 i1 => ?_⟩, by omega, fun _ => by omega, fun _ => ?_, fun _ => ?_⟩
  · by_cases ek : i = (k : Int)
    · have es : stp st k n i = n := by unfold stp; rw [if_pos ek]
      rw [es, c26, c49, c48, b6, b8, b9]
      refine ⟨by omega, ?_, ek.symm, by omega, fun h => by omega, fun j j0 j1 => by rw [c27]; exact b11 j j0 j1⟩
      by_cases k0 : k = 0
      · rw [htz k0, if_pos (by omega)]
      · rw [htp (by omega), if_neg (by omega)]
        unfold stp; rw [if_neg (by omega), ek]
    · have es : stp st k n i = st i := by unfold stp; rw [if_neg ek]
      obtain ⟨d1, d2, d3, d4, d5, d6⟩ := c7 i i0 (by omega)
      obtain ⟨z1, z2, z3, z4, z5, z6⟩ := b3 (st i) (by omega)
      rw [es, c26, c49, c48, z3, z6]
      have esm : i ≠ 0 → stp st k n (i - 1) = st (i - 1) := fun _ => by unfold stp; rw [if_neg (by omega)]
      have e26 : x.1 26 (st i) = (if i = 0 then -1 else stp st k n (i - 1)) := by
        by_cases i00 : i = 0
        · rw [if_pos i00]; rw [if_pos i00] at d2; exact d2
        · rw [if_neg i00, esm i00]; rw [if_neg i00] at d2; exact d2
      by_cases et : i = (k : Int) - 1
      · -- the innermost
        have etop : topOf k st = st i := by rw [htp (by omega), et]
        have e48 : x1.1 48 (st i) = x.1 48 (st i) + 1 := by rw [← etop]; exact b16 (by rw [etop]; omega)
        have h3 := htop (by omega)
        rw [etop] at h3 b10 b12
        rw [e48]
        refine ⟨by omega, e26, d3, by omega, fun _ => ⟨by omega, ?_⟩, fun j j0 j1 => ?_⟩
        · rw [c27, show 3 * st i + (x.1 48 (st i) + 1 - 1) = 3 * st i + x.1 48 (st i) by omega, b12 (by omega)]
          unfold stp; rw [if_pos (by omega)]
        · rw [c27, b10 _ (by omega) (Or.inr (by omega))]; exact d6 j (by omega) j1
      · have enp : st i ≠ topOf k st := fun e => by
          rw [htp (by omega)] at e
          have := CST.inj ⟨c6, c7⟩ i0 (by omega) (by omega) (by omega) e
          omega
        have e48 : x1.1 48 (st i) = x.1 48 (st i) := b15 _ (by omega) enp
        have tb : topOf k st = -1 ∨ 0 ≤ topOf k st := by
          by_cases k0 : k = 0
          · exact Or.inl (htz k0)
          · right; rw [htp (by omega)]; exact (c7 _ (by omega) (by omega)).1.1
        have e27 : ∀ j, 0 ≤ j → j < 3 → x1.1 27 (3 * st i + j) = x.1 27 (3 * st i + j) := fun j j0 j1 => by
          refine b10 _ (by omega) ?_
          rcases tb with t | t
          · exact Or.inl (by omega)
          · have h3 := htop (by omega)
            have h4 : 0 ≤ x.1 48 (topOf k st) := by rw [htp (by omega)]; exact (c7 _ (by omega) (by omega)).2.2.2.1.1
            exact Or.inr (by omega)
        rw [e48]
        refine ⟨by omega, e26, d3, d4, fun _ => ?_, fun j j0 j1 => ?_⟩
        · obtain ⟨d51, d52⟩ := d5 (by omega)
          refine ⟨d51, ?_⟩
          rw [c27, e27 _ (by omega) (by omega), d52]
          unfold stp; rw [if_neg (by omega)]
        · rw [c27, e27 j (by omega) j1]; exact d6 j j0 j1
  · by_cases k0 : k = 0
    · have := h0 k0; omega
    · have := c10 (by omega); omega
  · rw [c20]
    by_cases k0 : k = 0
    · have := b14 (by rw [htz k0]; omega)
      rw [show x.1 18 0 - 1 = (nD : Int) by omega] at this
      rw [this]; exact h0 k0
    · have t : 0 ≤ topOf k st := by rw [htp (by omega)]; exact (c7 _ (by omega) (by omega)).1.1
      rw [b13 _ (Or.inr t)]
      exact c11 (c10 (by omega))
end PUSHX
