/-! THE CLASS: tape, time, trust, rights, images -/
section X10T
variable {s : ST}
/-- taped told further, nothing else -/
def TP (s s' : ST) (n : Int) : Prop := md [(0, 1)] [1] s s' ∧ s'.1 0 1 = s.1 0 1 + n
theorem kx_tape {p : Int} {Q : ST → Prop} : ∀ (j : Nat) (s s1 : ST) (m : Int), j ≤ 4 → TP s s1 m → 0 ≤ s1.1 0 1 → s1.1 0 1 + j ≤ 1600 → (∀ s', TP s s' (m + j) → Q s') → K_X10_tapeNumber_3 s1 p (8 * j - 8) Q := by
  intro j
  induction j with
  | zero =>
    intro s s1 m hj t h0 h1 hQ
    refine s_X10_tapeNumber_3 ?_
    (repeat' (with_reducible first | refine ⟨?_, ?_⟩ | intro _))
    all_goals first | omega | exact hQ _ (by rw [show m + ((0 : Nat) : Int) = m by omega]; exact t)
  | succ j ih =>
    intro s s1 m hj t h0 h1 hQ
    refine s_X10_tapeNumber_3 ?_
    (repeat' (with_reducible first | refine ⟨?_, ?_⟩ | intro _))
    all_goals first | omega | skip
    have e1 : (ui (ui s1 1 (s1.1 0 1) (i8 (i8 (iushr p (8 * ((j + 1 : Nat) : Int) - 8))))) 0 1 (s1.1 0 1 + 1)).1 0 1 = s1.1 0 1 + 1 := ui_same
    have mm : md [(0, 1)] [1] s1 (ui (ui s1 1 (s1.1 0 1) (i8 (i8 (iushr p (8 * ((j + 1 : Nat) : Int) - 8))))) 0 1 (s1.1 0 1 + 1)) := (by repeat' (first | exact md.rf | assumption | refine md.ui ?_ ?_ | refine md.uj ?_ ?_ | exact Or.inr (by decide) | exact Or.inl (by decide)))
    generalize ui (ui s1 1 (s1.1 0 1) (i8 (i8 (iushr p (8 * ((j + 1 : Nat) : Int) - 8))))) 0 1 (s1.1 0 1 + 1) = s2 at *
    rw [show 8 * ((j + 1 : Nat) : Int) - 8 - 8 = 8 * (j : Int) - 8 by omega]
    have t2 := t.2
    refine ih s s2 (m + 1) (by omega) ⟨t.1.tr mm, by omega⟩ (by omega) (by omega) fun s' t' => hQ s' ?_
    rw [show m + ((j + 1 : Nat) : Int) = m + 1 + (j : Int) by omega]; exact t'
theorem x_X10_tapeNumber {s0 : ST} {m p : Int} {Q : ST → Prop} (t : TP s0 s m) (h0 : 0 ≤ s.1 0 1) (h1 : s.1 0 1 + 4 ≤ 1600) (hQ : ∀ s', TP s0 s' (m + 4) → Q s') : C_X10_tapeNumber s p Q := by
  refine s_X10_tapeNumber ?_
  (repeat' (with_reducible first | refine ⟨?_, ?_⟩ | intro _))
  exact kx_tape 4 s0 s m (by omega) t h0 (by omega) hQ
theorem IX.tape {s s' : ST} (h : IX s) (mm : md [(0, 1)] [1] s s') (t : 0 ≤ s'.1 0 1 ∧ s'.1 0 1 ≤ 1600) : IX s' ∧ s'.1 0 2 = s.1 0 2 := by
  have e2 := mm.f 0 2 (by decide) (by decide)
  refine ⟨cx_tape h (fun c hc => funext fun x => (mm c x (fun q => ?_) (fun q => ?_)).1) t (by rw [e2]; exact h.2.2.2.2.1), e2⟩
  · simp only [List.mem_cons, Prod.mk.injEq, List.not_mem_nil, or_false] at q; omega
  · simp only [List.mem_cons, List.not_mem_nil, or_false] at q; omega
theorem i_X10_feed {p q u w x : Int} {Q : ST → Int → Prop} (h : IX s) (hQ1 : s.1 0 1 + 20 ≤ 1600 → ∀ s', IX s' → s'.1 0 2 = s.1 0 2 → s'.1 0 1 = s.1 0 1 + 20 → Q s' (s.1 0 1 + 20)) (hQ2 : 1600 < s.1 0 1 + 20 → Q s (-1)) : C_X10_feed s p q u w x Q := by
  have h1 := h.2.2.2.1
  refine s_X10_feed ?_
  (repeat' (with_reducible first | refine ⟨?_, ?_⟩ | intro _))
  all_goals first | omega | exact hQ2 (by omega) | skip
  refine x_X10_tapeNumber (s0 := s) (m := 0) ⟨md.rf, by omega⟩ (by omega) (by omega) fun s2 t2 => ?_
  have e2 := t2.2
  refine x_X10_tapeNumber t2 (by omega) (by omega) fun s3 t3 => ?_
  have e3 := t3.2
  refine x_X10_tapeNumber t3 (by omega) (by omega) fun s4 t4 => ?_
  have e4 := t4.2
  refine x_X10_tapeNumber t4 (by omega) (by omega) fun s5 t5 => ?_
  have e5 := t5.2
  refine x_X10_tapeNumber t5 (by omega) (by omega) fun s6 t6 => ?_
  have e6 := t6.2
  have hh := h.tape t6.1 (by omega)
  have := hQ1 (by omega) s6 hh.1 hh.2 (by omega)
  rw [show s6.1 0 1 = s.1 0 1 + 20 by omega]
  exact this
theorem i_X10_end {p : Int} {Q : ST → Int → Prop} (h : IX s) (hQ : ∀ s' v, IX s' → s'.1 0 2 = s.1 0 2 → (s'.1 0 1 = s.1 0 1 ∧ v = -1 ∧ (p < 0 ∨ s.1 0 1 < p) ∨ s'.1 0 1 = p ∧ v = p ∧ 0 ≤ p ∧ p ≤ s.1 0 1) → Q s' v) : C_X10_end s p Q := by
  have h1 := h.2.2.2.1
  refine s_X10_end ?_
  (repeat' (with_reducible first | refine ⟨?_, ?_⟩ | intro _))
  · exact hQ _ _ h rfl (Or.inl ⟨rfl, rfl, by omega⟩)
  · have mm : md [(0, 1)] [1] s (ui s 0 1 p) := (by repeat' (first | exact md.rf | assumption | refine md.ui ?_ ?_ | refine md.uj ?_ ?_ | exact Or.inr (by decide) | exact Or.inl (by decide)))
    have e2 : (ui s 0 1 p).1 0 1 = p := ui_same
    have := h.tape mm (by omega)
    exact hQ _ _ this.1 this.2 (Or.inr ⟨e2, rfl, by omega, by omega⟩)
  · exact hQ _ _ h rfl (Or.inl ⟨rfl, rfl, by omega⟩)
theorem i_X10_later {p : Int} {Q : ST → Int → Prop} (h : IX s) (hQ : ∀ s' v, IX s' → s'.1 0 1 = s.1 0 1 → (s'.1 0 2 = s.1 0 2 ∧ v = -1 ∧ (p < 0 ∨ 1000 < p ∨ 100000 < s.1 0 2 + p) ∨ s'.1 0 2 = s.1 0 2 + p ∧ v = s.1 0 2 + p ∧ (0 ≤ p ∧ p ≤ 1000 ∧ s.1 0 2 + p ≤ 100000)) → Q s' v) : C_X10_later s p Q := by
  have h1 := h.2.2.2.1
  have h2 := h.2.2.2.2.1
  refine s_X10_later ?_
  (repeat' (with_reducible first | refine ⟨?_, ?_⟩ | intro _))
  all_goals first | omega | exact hQ _ _ h rfl (Or.inl ⟨rfl, rfl, by omega⟩) | skip
  have e1 : (ui s 0 2 (s.1 0 2 + p)).1 0 1 = s.1 0 1 := ui_ne (by decide)
  have e2 : (ui s 0 2 (s.1 0 2 + p)).1 0 2 = s.1 0 2 + p := ui_same
  exact hQ _ _ (cx_tape h (fun c hc => funext fun x => ui_cell (by omega)) (by rw [e1]; exact h1) (by rw [e2]; omega)) e1 (Or.inr ⟨e2, rfl, by omega⟩)
theorem i_X10_trust {p q : Int} {Q : ST → Int → Prop} (h : IX s) (hQ : ∀ s' v, KX s s' → Q s' v) : C_X10_trust s p q Q := by
  refine s_X10_trust ?_
  (repeat' (with_reducible first | refine ⟨?_, ?_⟩ | intro _))
  all_goals first | omega | exact hQ _ _ (.rf h) | skip
  all_goals exact hQ _ _ (KX_put (KX_put (KX.ui (.rf h) (by unfold freeC; omega)) (by omega) (fun e => by omega) (fun e => by omega)) (by omega) (fun e => by omega) (fun e => by omega))
theorem i_X10_right {p : Int} {Q : ST → Int → Prop} (h : IX s) (hQ : ∀ s' v, KX s s' → Q s' v) : C_X10_right s p Q := by
  refine s_X10_right ?_
  (repeat' (with_reducible first | refine ⟨?_, ?_⟩ | intro _))
  all_goals first | exact hQ _ _ (.rf h) | exact x_X8_tell (.rf h) fun s2 v k2 => hQ _ _ k2
theorem i_X10_untell {p : Int} {Q : ST → Int → Prop} (h : IX s) (hQ : ∀ s' v, KX s s' → Q s' v) : C_X10_untell s p Q := by
  refine s_X10_untell ?_
  (repeat' (with_reducible first | refine ⟨?_, ?_⟩ | intro _))
  exact x_X8_takeBack (.rf h) fun s2 v k2 _ => hQ _ _ k2
theorem i_X10_image {p : Int} {Q : ST → Int → Prop} (h : IX s) (hQ : ∀ s' v, KX s s' → Q s' v) : C_X10_image s p Q := by
  refine s_X10_image ?_
  (repeat' (with_reducible first | refine ⟨?_, ?_⟩ | intro _))
  all_goals first | omega | exact hQ _ _ (.rf h) | skip
  exact x_X9_copyFrom (boxT_ok ⟨by omega, by omega⟩) h fun s2 k2 => hQ _ _ (KX_put k2 (by omega) (fun e => by omega) (fun e => by omega))
theorem i_X10_back {p : Int} {Q : ST → Int → Prop} (h : IX s) (hQ : ∀ s' v, KX s s' → Q s' v) : C_X10_back s p Q := by
  refine s_X10_back ?_
  (repeat' (with_reducible first | refine ⟨?_, ?_⟩ | intro _))
  all_goals first | omega | exact hQ _ _ (.rf h) | exact x_X10_goOnWith (.rf h) fun s2 v k2 => hQ _ _ k2
theorem i_X10_about {p : Int} {Q : ST → Int → Prop} (hQ : ∀ v, Q s v) : C_X10_about s p Q := by
  refine s_X10_about ?_
  (repeat' (with_reducible first | refine ⟨?_, ?_⟩ | intro _))
  all_goals first | exact hQ _ | exact x_X9_trustOfAll hQ
theorem i_X10_fault {p : Int} {Q : ST → Int → Prop} (hQ : ∀ v, Q s v) : C_X10_fault s p Q := by
  refine (w_X10_fault (s := s) (p := p)).mono ?_
  rintro s' v ⟨e, _⟩
  rw [e]; exact hQ v
theorem i_X10_place {p q : Int} {Q : ST → Int → Prop} (hQ : ∀ v, Q s v) : C_X10_place s p q Q := by
  refine (w_X10_place (s := s) (p := p) (q := q) (fun _ => ⟨fun _ => by omega, fun _ => by omega, fun _ => by omega, fun _ => by omega⟩)).mono ?_
  rintro s' v ⟨e, _⟩
  rw [e]; exact hQ v
end X10T
