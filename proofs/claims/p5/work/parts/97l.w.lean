/-! THE REFERENCE: what the reader may write; its cursor -/
def RW (rb : Int) (a : Nat) (x : Int) : Prop := (a = 139 ∧ (4 ≤ x ∧ x ≤ 10 ∨ x = 32)) ∨ ((a = 142 ∨ a = 143 ∨ a = 144) ∧ x = rb) ∨ ((a = 145 ∨ a = 157) ∧ 8 * rb ≤ x ∧ x < 8 * rb + 8) ∨ (a = 156 ∧ 20 * rb ≤ x ∧ x < 20 * rb + 20) ∨ ((a = 146 ∨ a = 147 ∨ a = 148 ∨ a = 149 ∨ a = 150 ∨ a = 151 ∨ a = 153 ∨ a = 154 ∨ a = 155 ∨ a = 158) ∧ 40 * rb ≤ x ∧ x < 40 * rb + 40) ∨ (a = 152 ∧ 120 * rb ≤ x ∧ x < 120 * rb + 120) ∨ (a = 159 ∨ a = 160)
def RM (rb : Int) (s s' : ST) : Prop := ∀ (a : Nat) (x : Int), ¬ RW rb a x → s'.1 a x = s.1 a x ∧ s'.2 a x = s.2 a x
theorem RM.rf {rb : Int} {s : ST} : RM rb s s := fun _ _ _ => ⟨rfl, rfl⟩
theorem RM.tr {rb : Int} {s s' s'' : ST} (h : RM rb s s') (k : RM rb s' s'') : RM rb s s'' := fun a x hn => ⟨(k a x hn).1.trans (h a x hn).1, (k a x hn).2.trans (h a x hn).2⟩
theorem RM.ui {rb : Int} {s s' : ST} {a : Nat} {x v : Int} (h : RM rb s s') (hw : RW rb a x) : RM rb s (ui s' a x v) := by
  intro c y hn
  by_cases hc : c = a
  · by_cases hy : y = x
    · rw [hc, hy] at hn; exact absurd hw hn
    · rw [hc] at hn ⊢
      exact ⟨(ui_ne hy).trans (h a y hn).1, (h a y hn).2⟩
  · exact ⟨(ui_cell hc).trans (h c y hn).1, (h c y hn).2⟩
theorem RM.uj {rb : Int} {s s' : ST} {a : Nat} {x : Int} {v : Int64} (h : RM rb s s') (hw : RW rb a x) : RM rb s (uj s' a x v) := by
  intro c y hn
  by_cases hc : c = a
  · by_cases hy : y = x
    · rw [hc, hy] at hn; exact absurd hw hn
    · rw [hc] at hn ⊢
      exact ⟨(h a y hn).1, (uj_ne hy).trans (h a y hn).2⟩
  · exact ⟨(h c y hn).1, (uj_cell hc).trans (h c y hn).2⟩
theorem RM.md {rb : Int} {fs : List (Nat × Int)} {s s' : ST} (h : md fs [] s s') (h1 : (fs.all fun q => decide (q.1 = 139) && (decide (4 ≤ q.2 ∧ q.2 ≤ 10) || decide (q.2 = 32))) = true) : RM rb s s' := by
  intro a x hn
  refine h a x (fun q => ?_) (fun q => by cases q)
  have := List.all_eq_true.mp h1 _ q
  rw [Bool.and_eq_true, Bool.or_eq_true] at this
  refine hn (Or.inl ⟨of_decide_eq_true this.1, ?_⟩)
  rcases this.2 with h | h
  · exact Or.inl (of_decide_eq_true h)
  · exact Or.inr (of_decide_eq_true h)
theorem RM.wq {rb b : Int} {s s' : ST} (h : RM rb s s') (hr : 0 ≤ rb ∧ rb ≤ 1) (hb : 0 ≤ b ∧ b < 6) (hne : b ≠ rb) : WQ s b s' b := by
  refine ⟨⟨(h 142 b (by unfold RW; omega)).1, (h 143 b (by unfold RW; omega)).1, (h 144 b (by unfold RW; omega)).1⟩, fun i i0 i1 => (h 145 _ (by unfold RW; omega)).1, fun i i0 i1 => (h 156 _ (by unfold RW; omega)).1, fun i i0 i1 => ⟨⟨(h 146 _ (by unfold RW; omega)).1, (h 149 _ (by unfold RW; omega)).1, (h 150 _ (by unfold RW; omega)).1, (h 151 _ (by unfold RW; omega)).1, (h 153 _ (by unfold RW; omega)).1, (h 154 _ (by unfold RW; omega)).1, (h 155 _ (by unfold RW; omega)).1⟩, fun k k0 k1 => (h 152 _ (by unfold RW; omega)).1⟩⟩
def RDC (s : ST) : Prop := (0 ≤ s.1 139 3 ∧ s.1 139 3 ≤ 1600) ∧ (0 ≤ s.1 139 6 ∧ s.1 139 6 ≤ s.1 139 3) ∧ (0 ≤ s.1 139 7 ∧ s.1 139 7 ≤ s.1 139 3)
def gF : List (Nat × Int) := [(139, 6), (139, 7), (139, 8), (139, 9), (139, 10)]
theorem P_sign {s : ST} {p : Int} (h : RDC s) (p0 : 0 ≤ p) : P_X11_sign s p := fun hh => by have := h.1; omega
theorem sign_in {s : ST} {p : Int} (h : F_X11_sign s p ≠ 0) : p < s.1 139 3 := by
  unfold F_X11_sign at h
  by_cases c : s.1 139 3 ≤ p
  · rw [if_pos c] at h; exact absurd rfl h
  · omega
theorem c_X11_isKept {s : ST} {p : Int64} {Q : ST → Int → Prop} (hQ : ∀ v, (v = 0 ∨ v = 1) → Q s v) : C_X11_isKept s p Q := by
  have k139 : ∀ a t, K_X11_isKept_139 s p a t Q := by
    intro a t
    refine s_X11_isKept_139 ?_
    (repeat' (with_reducible first | refine ⟨?_, ?_⟩ | intro _))
    all_goals exact hQ _ (by omega)
  have k134 : ∀ a, K_X11_isKept_134 s p a Q := fun a => s_X11_isKept_134 fun _ _ => k139 _ _
  have k69 : ∀ a, K_X11_isKept_69 s p a Q := by
    intro a
    refine s_X11_isKept_69 ?_
    (repeat' (with_reducible first | refine ⟨?_, ?_⟩ | intro _))
    all_goals first | exact k134 _ | exact k139 _ _
  have k64 : K_X11_isKept_64 s p Q := s_X11_isKept_64 fun _ => k69 _
  refine s_X11_isKept ?_
  (repeat' (with_reducible first | refine ⟨?_, ?_⟩ | intro _))
  all_goals first | exact k64 | exact k69 _
