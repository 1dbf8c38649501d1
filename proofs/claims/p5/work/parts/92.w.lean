/-! A PROGRAM WRITTEN ANEW WITH ONE CHANGE, as functions -/
section CHP
variable {so en bi : Int → Int} {kd : Int → Int → Int} {nP p c its : Int}
def nso (so : Int → Int) (p c q : Int) : Int := if q = p then (if c = 2 then 1 else if c = 3 then 0 else if c = 4 then 10 else so q) else so q
def nbr (bi : Int → Int) (p c its q : Int) : Int := if q = p then (if c = 0 then bi q else if c = 1 then its else -1) else bi q
def kb (so : Int → Int) (kd : Int → Int → Int) (p c q k : Int) : Int := if so q = 5 then (if k = 0 then kd q 0 else if q = p ∧ c = 0 then kd q (3 - k) else kd q k) else (if q = p ∧ c = 0 then kd q (1 - k) else kd q k)
def nsz (en : Int → Int) (p c q : Int) : Int := en q - q + 1 - (if c = 4 ∧ q ≤ p ∧ p ≤ en q then en p - p else 0)
def ns2 (so en : Int → Int) (kd : Int → Int → Int) (p c q : Int) (k : Nat) : Int := sm (fun j => nsz en p c (kb so kd p c q j)) 0 k
/-- a change that p allows -/
def CG (so : Int → Int) (p c : Int) : Prop := (0 ≤ c ∧ c ≤ 4) ∧ (c = 0 → so p = 6 ∨ so p = 7 ∨ so p = 11 ∨ so p = 14 ∨ so p = 15 ∨ so p = 5) ∧ (c = 1 → so p = 2) ∧ (c = 2 → so p = 0) ∧ (c = 3 → so p = 1)
theorem nso_ar (h : CG so p c) (q : Int) : (q = p ∧ c = 4 ∧ ar (nso so p c q) = 0) ∨ (ar (nso so p c q) = ar (so q) ∧ ¬ (q = p ∧ c = 4)) := by
  obtain ⟨h0, h1, h2, h3, h4⟩ := h
  unfold nso
  by_cases e : q = p
  · rw [if_pos e]
    by_cases c2 : c = 2
    · rw [if_pos c2]; refine Or.inr ⟨?_, by omega⟩; rw [e, h3 c2]; decide
    · rw [if_neg c2]
      by_cases c3 : c = 3
      · rw [if_pos c3]; refine Or.inr ⟨?_, by omega⟩; rw [e, h4 c3]; decide
      · rw [if_neg c3]
        by_cases c4 : c = 4
        · rw [if_pos c4]; exact Or.inl ⟨e, c4, by decide⟩
        · rw [if_neg c4]; exact Or.inr ⟨rfl, fun h => c4 h.2⟩
  · rw [if_neg e]; exact Or.inr ⟨rfl, fun h => e h.1⟩
theorem kb_ok (h : CG so p c) {q k : Int} (k0 : 0 ≤ k) (k1 : k < ar (so q)) : ∃ j, 0 ≤ j ∧ j < ar (so q) ∧ kb so kd p c q k = kd q j := by
  obtain ⟨h0, h1, h2, h3, h4⟩ := h
  unfold kb
  by_cases e5 : so q = 5
  · rw [if_pos e5]
    have a5 : ar (so q) = 3 := by rw [e5]; decide
    by_cases e0 : k = 0
    · rw [if_pos e0]; exact ⟨0, by omega, by omega, rfl⟩
    · rw [if_neg e0]
      by_cases e : q = p ∧ c = 0
      · rw [if_pos e]; exact ⟨3 - k, by omega, by omega, rfl⟩
      · rw [if_neg e]; exact ⟨k, k0, k1, rfl⟩
  · rw [if_neg e5]
    by_cases e : q = p ∧ c = 0
    · rw [if_pos e]
      have a2 : ar (so q) = 2 := by
        rw [e.1] at e5 ⊢
        rcases h1 e.2 with x | x | x | x | x | x
        · rw [x]; decide
        · rw [x]; decide
        · rw [x]; decide
        · rw [x]; decide
        · rw [x]; decide
        · exact absurd x e5
      exact ⟨1 - k, by omega, by omega, rfl⟩
    · rw [if_neg e]; exact ⟨k, k0, k1, rfl⟩
theorem kb_sur (h : CG so p c) {q k : Int} (k0 : 0 ≤ k) (k1 : k < ar (so q)) : ∃ j, 0 ≤ j ∧ j < ar (so q) ∧ kb so kd p c q j = kd q k := by
  obtain ⟨h0, h1, h2, h3, h4⟩ := h
  unfold kb
  by_cases e5 : so q = 5
  · have a5 : ar (so q) = 3 := by rw [e5]; decide
    by_cases e0 : k = 0
    · refine ⟨0, by omega, by omega, ?_⟩
      rw [if_pos e5, if_pos rfl, e0]
    · by_cases e : q = p ∧ c = 0
      · refine ⟨3 - k, by omega, by omega, ?_⟩
        rw [if_pos e5, if_neg (by omega), if_pos e, show 3 - (3 - k) = k by omega]
      · refine ⟨k, k0, k1, ?_⟩
        rw [if_pos e5, if_neg e0, if_neg e]
  · by_cases e : q = p ∧ c = 0
    · have a2 : ar (so q) = 2 := by
        have e5' := e5
        rw [e.1] at e5' ⊢
        rcases h1 e.2 with x | x | x | x | x | x
        · rw [x]; decide
        · rw [x]; decide
        · rw [x]; decide
        · rw [x]; decide
        · rw [x]; decide
        · exact absurd x e5'
      refine ⟨1 - k, by omega, by omega, ?_⟩
      rw [if_neg e5, if_pos e, show 1 - (1 - k) = k by omega]
    · refine ⟨k, k0, k1, ?_⟩
      rw [if_neg e5, if_neg e]
/-- two kids are the same only at one place -/
theorem kd_apart (t : T1 so en kd nP) {q i j : Int} (h0 : 0 ≤ q) (h1 : q < nP) (i0 : 0 ≤ i) (ij : i < j) (j1 : j < ar (so q)) : en (kd q i) < kd q j := by
  have hp := t q h0 h1
  have hr := ar_r (so q)
  obtain ⟨e1, g1⟩ := hp.2.2.2.2.2.1 (by omega)
  have a0 := t.kid h0 h1 (Int.le_refl 0) (show 0 < ar (so q) by omega)
  have a1 := t.kid h0 h1 (show (0 : Int) ≤ 1 by omega) (show 1 < ar (so q) by omega)
  by_cases c2 : ar (so q) = 2
  · rw [show i = 0 by omega, show j = 1 by omega]; omega
  · obtain ⟨⟨e2, g2⟩, e3⟩ := hp.2.2.2.2.2.2.2 (by omega)
    have a2 := t.kid h0 h1 (show (0 : Int) ≤ 2 by omega) (show 2 < ar (so q) by omega)
    by_cases d : i = 0
    · by_cases d2 : j = 1
      · rw [d, d2]; omega
      · rw [d, show j = 2 by omega]; omega
    · rw [show i = 1 by omega, show j = 2 by omega]; omega
theorem nsz_ge (t : T1 so en kd nP) (hp0 : 0 ≤ p) (hp1 : p < nP) {q : Int} (h0 : 0 ≤ q) (h1 : q < nP) : 1 ≤ nsz en p c q ∧ nsz en p c q ≤ en q - q + 1 := by
  unfold nsz
  have := (t q h0 h1).2.1
  have := (t p hp0 hp1).2.1
  by_cases e : c = 4 ∧ q ≤ p ∧ p ≤ en q
  · rw [if_pos e]
    have := t.le h0 h1 e.2.1 e.2.2
    omega
  · rw [if_neg e]; omega
theorem nsz_sum (t : T1 so en kd nP) (h : CG so p c) (hp0 : 0 ≤ p) (hp1 : p < nP) {q : Int} (h0 : 0 ≤ q) (h1 : q < nP) : nsz en p c q = 1 + ns2 so en kd p c q (ar (nso so p c q)).toNat := by
  have hq := t q h0 h1
  have hr := ar_r (so q)
  rcases nso_ar h q with ⟨e1, e2, e3⟩ | ⟨e1, e2⟩
  · rw [e3]
    show nsz en p c q = 1 + 0
    unfold nsz
    rw [e1, if_pos ⟨e2, Int.le_refl _, (t p hp0 hp1).2.1.1⟩]; omega
  · rw [e1]
    -- of the kids as they stood, whichever their order
    have ks : ∀ k, 0 ≤ k → k < ar (so q) → nsz en p c (kd q k) = en (kd q k) - kd q k + 1 - (if c = 4 ∧ kd q k ≤ p ∧ p ≤ en (kd q k) then en p - p else 0) := fun _ _ _ => rfl
    have hk : ∀ k, 0 ≤ k → k < ar (so q) → q < kd q k ∧ kd q k ≤ en (kd q k) ∧ en (kd q k) ≤ en q ∧ kd q k < nP := fun k a b => t.kid h0 h1 a b
    have hpe := (t p hp0 hp1).2.1
    have tot : nsz en p c q = 1 + sm (fun j => nsz en p c (kd q j)) 0 (ar (so q)).toNat := by
      by_cases c0 : ar (so q) = 0
      · rw [c0]
        have e := hq.2.2.1 c0
        show nsz en p c q = 1 + 0
        unfold nsz
        rw [e]
        by_cases x : c = 4 ∧ q ≤ p ∧ p ≤ q
        · exact absurd ⟨by omega, x.1⟩ e2
        · rw [if_neg x]; omega
      · obtain ⟨d0, g0⟩ := hq.2.2.2.1 (by omega)
        have k0 := hk 0 (by omega) (by omega)
        have s0 := ks 0 (by omega) (by omega)
        by_cases c1 : ar (so q) = 1
        · have e := hq.2.2.2.2.1 c1
          rw [c1]
          show nsz en p c q = 1 + (0 + nsz en p c (kd q (0 + ((0 : Nat) : Int))))
          rw [show (0 : Int) + ((0 : Nat) : Int) = 0 by omega, s0]
          unfold nsz
          by_cases x : c = 4 ∧ q ≤ p ∧ p ≤ en q
          · rw [if_pos x, if_pos ⟨x.1, by omega, by omega⟩]; omega
          · rw [if_neg x, if_neg (by omega)]; omega
        · obtain ⟨d1, g1⟩ := hq.2.2.2.2.2.1 (by omega)
          have k1 := hk 1 (by omega) (by omega)
          have s1 := ks 1 (by omega) (by omega)
          by_cases c2 : ar (so q) = 2
          · have e := hq.2.2.2.2.2.2.1 c2
            rw [c2]
            show nsz en p c q = 1 + (0 + nsz en p c (kd q (0 + ((0 : Nat) : Int))) + nsz en p c (kd q (0 + ((1 : Nat) : Int))))
            rw [show (0 : Int) + ((0 : Nat) : Int) = 0 by omega, show (0 : Int) + ((1 : Nat) : Int) = 1 by omega, s0, s1]
            unfold nsz
            by_cases x : c = 4 ∧ q ≤ p ∧ p ≤ en q
            · rw [if_pos x]
              by_cases y : p ≤ en (kd q 0)
              · rw [if_pos ⟨x.1, by omega, y⟩, if_neg (by omega)]; omega
              · rw [if_neg (by omega), if_pos ⟨x.1, by omega, by omega⟩]; omega
            · rw [if_neg x, if_neg (by omega), if_neg (by omega)]; omega
          · obtain ⟨⟨d2, g2⟩, e⟩ := hq.2.2.2.2.2.2.2 (by omega)
            have k2 := hk 2 (by omega) (by omega)
            have s2 := ks 2 (by omega) (by omega)
            rw [show ar (so q) = 3 by omega]
            show nsz en p c q = 1 + (0 + nsz en p c (kd q (0 + ((0 : Nat) : Int))) + nsz en p c (kd q (0 + ((1 : Nat) : Int))) + nsz en p c (kd q (0 + ((2 : Nat) : Int))))
            rw [show (0 : Int) + ((0 : Nat) : Int) = 0 by omega, show (0 : Int) + ((1 : Nat) : Int) = 1 by omega, show (0 : Int) + ((2 : Nat) : Int) = 2 by omega, s0, s1, s2]
            unfold nsz
            by_cases x : c = 4 ∧ q ≤ p ∧ p ≤ en q
            · rw [if_pos x]
              by_cases y : p ≤ en (kd q 0)
              · rw [if_pos ⟨x.1, by omega, y⟩, if_neg (by omega), if_neg (by omega)]; omega
              · by_cases y1 : p ≤ en (kd q 1)
                · rw [if_neg (by omega), if_pos ⟨x.1, by omega, y1⟩, if_neg (by omega)]; omega
                · rw [if_neg (by omega), if_neg (by omega), if_pos ⟨x.1, by omega, by omega⟩]; omega
            · rw [if_neg x, if_neg (by omega), if_neg (by omega), if_neg (by omega)]; omega
    rw [tot]
    congr 1
    unfold ns2
    have g : ∀ k, kb so kd p c q k = if so q = 5 then (if k = 0 then kd q 0 else if q = p ∧ c = 0 then kd q (3 - k) else kd q k) else (if q = p ∧ c = 0 then kd q (1 - k) else kd q k) := fun _ => rfl
    by_cases e : q = p ∧ c = 0
    · by_cases e5 : so q = 5
      · have a5 : ar (so q) = 3 := by rw [e5]; decide
        rw [a5]
        show 0 + nsz en p c (kd q (0 + ((0 : Nat) : Int))) + nsz en p c (kd q (0 + ((1 : Nat) : Int))) + nsz en p c (kd q (0 + ((2 : Nat) : Int))) = 0 + nsz en p c (kb so kd p c q (0 + ((0 : Nat) : Int))) + nsz en p c (kb so kd p c q (0 + ((1 : Nat) : Int))) + nsz en p c (kb so kd p c q (0 + ((2 : Nat) : Int)))
        rw [g, g, g, if_pos e5, if_pos (by omega), if_pos e5, if_neg (by omega), if_pos e, if_pos e5, if_neg (by omega), if_pos e, show (0 : Int) + ((0 : Nat) : Int) = 0 by omega, show (0 : Int) + ((1 : Nat) : Int) = 1 by omega, show (0 : Int) + ((2 : Nat) : Int) = 2 by omega, show (3 : Int) - 1 = 2 by omega, show (3 : Int) - 2 = 1 by omega]
        omega
      · have a2 : ar (so q) = 2 := by
          have e5' := e5
          rw [e.1] at e5' ⊢
          rcases h.2.1 e.2 with x | x | x | x | x | x
          · rw [x]; decide
          · rw [x]; decide
          · rw [x]; decide
          · rw [x]; decide
          · rw [x]; decide
          · exact absurd x e5'
        rw [a2]
        show 0 + nsz en p c (kd q (0 + ((0 : Nat) : Int))) + nsz en p c (kd q (0 + ((1 : Nat) : Int))) = 0 + nsz en p c (kb so kd p c q (0 + ((0 : Nat) : Int))) + nsz en p c (kb so kd p c q (0 + ((1 : Nat) : Int)))
        rw [g, g, if_neg e5, if_pos e, if_neg e5, if_pos e, show (0 : Int) + ((0 : Nat) : Int) = 0 by omega, show (0 : Int) + ((1 : Nat) : Int) = 1 by omega, show (1 : Int) - 0 = 1 by omega, show (1 : Int) - 1 = 0 by omega]
        omega
    · refine sm_congr _ (fun k k0 k1 => ?_)
      show nsz en p c (kd q k) = nsz en p c (kb so kd p c q k)
      rw [g]
      by_cases e5 : so q = 5
      · rw [if_pos e5]
        by_cases x : k = 0
        · rw [if_pos x, x]
        · rw [if_neg x, if_neg e]
      · rw [if_neg e5, if_neg e]
end CHP
