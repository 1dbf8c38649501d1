/-! THE CLASS: askings -/
theorem IX.vals {s s' : ST} (h : IX s) (e38 : s'.1 38 = s.1 38) (e39 : s'.1 39 = s.1 39) (e0 : s'.1 0 = s.1 0) (e1 : s'.1 1 = s.1 1) (e46 : s'.1 46 = s.1 46) (e47 : s'.2 47 = s.2 47) (e17 : s'.1 17 6 ≤ 43) (a1 : AK s' 51) (a2 : AK s' 59) (z : ZX s') : KX s s' := by
  refine ⟨⟨?_, a1, a2, ?_, ?_, e17, z⟩, by rw [e0], by rw [e0], e1, e46, e47⟩
  · have := h.1; unfold KI at *; rw [e38, e39]; exact this
  · rw [e0]; exact h.2.2.2.1
  · rw [e0]; exact h.2.2.2.2.1
theorem AK.put {s : ST} {a c : Nat} {x v : Int} (h : AK s a) (hb : c = a → x = 3 → v = 0 ∨ v = 1) (h0 : c = a → x = 0 → 0 ≤ v ∧ v ≤ 400) (h3 : c = a + 3 ∨ c = a + 4 → -1 ≤ v ∧ v < 400) : AK (ui s c x v) a := by
  refine ⟨⟨?_, ?_⟩, fun i i0 i1 => ⟨?_, ?_⟩⟩
  · by_cases e : c = a
    · by_cases e2 : x = 0
      · rw [e, e2, ui_same]; exact h0 e e2
      · rw [e, ui_ne (Ne.symm e2)]; exact h.1.1
    · rw [ui_cell (Ne.symm e)]; exact h.1.1
  · by_cases e : c = a
    · by_cases e2 : x = 3
      · rw [e, e2, ui_same]; exact hb e e2
      · rw [e, ui_ne (Ne.symm e2)]; exact h.1.2
    · rw [ui_cell (Ne.symm e)]; exact h.1.2
  · by_cases e : c = a + 3
    · by_cases e2 : i = x
      · rw [e, e2, ui_same]; exact h3 (Or.inl e)
      · rw [e, ui_ne e2]; exact (h.2 i i0 i1).1
    · rw [ui_cell (Ne.symm e)]; exact (h.2 i i0 i1).1
  · by_cases e : c = a + 4
    · by_cases e2 : i = x
      · rw [e, e2, ui_same]; exact h3 (Or.inr e)
      · rw [e, ui_ne e2]; exact (h.2 i i0 i1).2
    · rw [ui_cell (Ne.symm e)]; exact (h.2 i i0 i1).2
theorem KX_put {s s' : ST} {c : Nat} {x v : Int} (k : KX s s') (hc : 46 ≤ c) (h0 : (c = 51 ∨ c = 59) → x = 0 → 0 ≤ v ∧ v ≤ 400) (h3 : c = 54 ∨ c = 55 ∨ c = 62 ∨ c = 63 → -1 ≤ v ∧ v < 400) (hb : (c = 51 ∨ c = 59) → x = 3 → v = 0 ∨ v = 1 := by omega) (ht : isT c → x = 0 → 0 ≤ v := by omega) (h9 : c = 49 → v ≤ 20 := by omega) (h46 : c ≠ 46 := by omega) : KX s (ui s' c x v) :=
  k.tr (k.1.vals (funext fun y => ui_cell (by omega)) (funext fun y => ui_cell (by omega)) (funext fun y => ui_cell (by omega)) (funext fun y => ui_cell (by omega)) (funext fun y => ui_cell (by omega)) rfl (by rw [ui_cell (by omega)]; exact k.1.2.2.2.2.2.1) (k.1.2.1.put (fun e => hb (Or.inl e)) (fun e => h0 (Or.inl e)) (fun e => h3 (by omega))) (k.1.2.2.1.put (fun e => hb (Or.inr e)) (fun e => h0 (Or.inr e)) (fun e => h3 (by omega))) (k.1.zx.put ht h9))
theorem IX.ak {s : ST} {a : Nat} (h : IX s) (ha : isA a) : AK s a := by
  rcases ha with rfl | rfl
  · exact h.2.1
  · exact h.2.2.1
section XA
variable {s : ST} {a : Nat}
theorem x_X0_pileUp {p q u : Int} {Q : ST → Prop} (ha : isA a) (h : IX s) (hQ : ∀ s', KX s s' → Q s') : C_X0_pileUp a s p q u Q := by
  refine s_X0_pileUp ?_
  simp (disch := omega) only [ui_cell]
  (repeat' (with_reducible first | refine ⟨?_, ?_⟩ | intro _))
  all_goals first | omega | exact hQ _ (.rf h) | skip
  exact hQ _ (KX_put (KX_put (KX_put (KX_put (.rf h) (by omega) (fun e => by omega) (fun e => by omega)) (by omega) (fun e => by omega) (fun e => by omega)) (by omega) (fun e => by omega) (fun e => by omega)) (by omega) (fun e => by omega) (fun e => by omega))
theorem x_X0_setPart {p q u : Int} {Q : ST → Prop} (ha : isA a) (h : IX s) (hQ : ∀ s', KX s s' → Q s') : C_X0_setPart a s p q u Q := by
  refine s_X0_setPart ?_
  (repeat' (with_reducible first | refine ⟨?_, ?_⟩ | intro _))
  all_goals first | omega | exact hQ _ (.rf h) | exact hQ _ (KX_put (.rf h) (by omega) (fun e => by omega) (fun e => by omega))
theorem P_target (s : ST) (t : Nat) (p : Int) : P_X9_targetOf t s p := fun _ => by omega
theorem P_sort (s : ST) (t : Nat) (p : Int) : P_X9_sortOf t s p := fun _ => by omega
theorem P_root (s : ST) (t : Nat) (p : Int) : P_X9_rootOf t s p := fun _ _ _ => by omega
theorem P_kid (s : ST) (t : Nat) (p q : Int) : P_X9_kidOf t s p q := fun _ _ _ => ⟨by unfold R32; omega, by unfold R32; omega, by omega⟩
theorem P_arity (s : ST) (t : Nat) (p : Int) : P_X9_arityOf t s p := ⟨P_sort _ _ _, fun _ _ => by omega⟩
theorem P_meantBy (s : ST) (t : Nat) (p : Int) : P_X9_meantBy t s p := ⟨P_target _ _ _, fun _ => ⟨P_sort _ _ _, fun _ => P_kid _ _ _ _⟩, fun _ => P_root _ _ _⟩
theorem arity_r (s : ST) (t : Nat) (p : Int) : 0 ≤ F_X9_arityOf t s p ∧ F_X9_arityOf t s p ≤ 3 := by
  unfold F_X9_arityOf
  split
  · omega
  · split
    · omega
    · generalize F_X9_sortOf t s p = so at *
      have : so = 0 ∨ so = 1 ∨ so = 2 ∨ so = 3 ∨ so = 4 ∨ so = 5 ∨ so = 6 ∨ so = 7 ∨ so = 8 ∨ so = 9 ∨ so = 10 ∨ so = 11 ∨ so = 12 ∨ so = 13 ∨ so = 14 ∨ so = 15 ∨ so = 16 := by omega
      rcases this with e | e | e | e | e | e | e | e | e | e | e | e | e | e | e | e | e <;> (rw [e]; decide)
theorem x_X0_listMeant {p q : Int} {Q : ST → Prop} (ha : isA a) (h : IX s) (hQ : ∀ s', KX s s' → Q s') : C_X0_listMeant a s p q Q := by
  have ak := h.ak ha
  refine s_X0_listMeant fun _ _ _ _ => ⟨P_meantBy _ _ _, P_target _ _ _, fun _ => ⟨fun _ => hQ _ (.rf h), fun hh => ?_⟩, fun _ => x_X0_pileUp ha h hQ⟩
  have hb : 0 ≤ F_X9_targetOf (akT a) s p ∧ F_X9_targetOf (akT a) s p < 40 := by omega
  have := ak.2 _ hb.1 hb.2
  exact ⟨hb, ⟨by unfold R32; omega, by unfold R32; omega⟩, x_X0_setPart ha h hQ⟩
end XA
