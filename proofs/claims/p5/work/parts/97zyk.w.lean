/-! READING ALIKE: the reference begins a place, exactly -/
theorem find_congr {p q : Int → Bool} : ∀ (l : List Int), (∀ a, a ∈ l → p a = q a) → l.find? p = l.find? q := by
  intro l
  induction l with
  | nil => intro _; rfl
  | cons a l ih =>
    intro h
    have ha := h a List.mem_cons_self
    have hl := ih fun z hz => h z (List.mem_cons_of_mem _ hz)
    by_cases c : p a = true
    · rw [List.find?_cons_of_pos c, List.find?_cons_of_pos (ha ▸ c)]
    · rw [List.find?_cons_of_neg c, List.find?_cons_of_neg (ha ▸ c)]; exact hl
theorem CLS_congr {st st' : Int → Int} {IN IN' : Int → Bool} : ∀ k : Nat, (∀ i : Int, 0 ≤ i → i < k → st' i = st i ∧ IN' i = IN i) → CLS st' IN' k = CLS st IN k := by
  intro k
  induction k with
  | zero => intro _; rfl
  | succ k ih =>
    intro h
    obtain ⟨h1, h2⟩ := h (k : Int) (by omega) (by omega)
    show (if IN' k then [st' k] else []) ++ CLS st' IN' k = (if IN k then [st k] else []) ++ CLS st IN k
    rw [h1, h2, ih fun i i0 i1 => h i i0 (by omega)]
theorem mem_CLS {st : Int → Int} {IN : Int → Bool} {a : Int} : ∀ k : Nat, a ∈ CLS st IN k → ∃ i : Int, (0 ≤ i ∧ i < k) ∧ IN i = true ∧ a = st i := by
  intro k
  induction k with
  | zero => intro h; cases h
  | succ k ih =>
    intro h
    have h' : a ∈ (if IN k then [st k] else []) ++ CLS st IN k := h
    rw [List.mem_append] at h'
    rcases h' with h' | h'
    · by_cases c : IN k = true
      · rw [c, if_pos rfl, List.mem_singleton] at h'
        exact ⟨k, by omega, c, h'⟩
      · rw [if_neg c] at h'; cases h'
    · obtain ⟨i, hi, e⟩ := ih h'
      exact ⟨i, by omega, e⟩
theorem mem_DLS {a : Int} : ∀ d : Nat, a ∈ DLS d → 40 ≤ a ∧ a < 40 + d := by
  intro d
  induction d with
  | zero => intro h; cases h
  | succ d ih =>
    intro h
    have h' : a ∈ (40 + (d : Int)) :: DLS d := h
    rw [List.mem_cons] at h'
    rcases h' with h' | h'
    · omega
    · have := ih h'; omega
def FND (m : ST) (b : Int) (k nD : Nat) : Option Int := (CLS (fun i => m.1 159 i) (INM m b) k ++ DLS nD).find? (fun a => decide (wdm m b a = m.2 139 10))
theorem FND_eq {m m' : ST} {b : Int} {k nD : Nat} (hop : ∀ i : Int, 0 ≤ i → i < k → 0 ≤ m.1 159 i ∧ m.1 159 i < 40) (h1 : ∀ i : Int, 0 ≤ i → i < k → m'.1 159 i = m.1 159 i ∧ m'.1 160 i = m.1 160 i ∧ m'.1 146 (40 * b + m.1 159 i) = m.1 146 (40 * b + m.1 159 i) ∧ m'.2 158 (40 * b + m.1 159 i) = m.2 158 (40 * b + m.1 159 i)) (h2 : ∀ d : Int, 0 ≤ d → d < nD → m'.2 157 (8 * b + d) = m.2 157 (8 * b + d)) (h3 : m'.2 139 10 = m.2 139 10) : FND m' b k nD = FND m b k nD := by
  unfold FND
  have e : CLS (fun i => m'.1 159 i) (INM m' b) k = CLS (fun i => m.1 159 i) (INM m b) k := CLS_congr k fun i i0 i1 => by
    obtain ⟨a, c, d, _⟩ := h1 i i0 i1
    exact ⟨a, by unfold INM; rw [a, c, d]⟩
  rw [e]
  refine find_congr _ fun a ha => ?_
  rw [List.mem_append] at ha
  have ew : wdm m' b a = wdm m b a := by
    unfold wdm
    rcases ha with ha | ha
    · obtain ⟨i, hi, _, rfl⟩ := mem_CLS k ha
      obtain ⟨_, _, _, d⟩ := h1 i hi.1 hi.2
      have := hop i hi.1 hi.2
      rw [if_pos this.2, if_pos this.2]; exact d
    · have := mem_DLS nD ha
      rw [if_neg (by omega), if_neg (by omega)]; exact h2 _ (by omega) (by omega)
  rw [ew, h3]
def PB2 (m m1 : ST) (b n so bi : Int) : Prop := md [] [142, 146, 147, 148, 149, 153, 158] m m1 ∧ RM b m m1 ∧ RDC m1 ∧ (∀ z, z ≠ 40 * b + n → m1.1 146 z = m.1 146 z ∧ m1.1 149 z = m.1 149 z ∧ m1.1 153 z = m.1 153 z ∧ m1.2 158 z = m.2 158 z) ∧ m1.1 142 b = n + 1 ∧ m1.1 146 (40 * b + n) = so ∧ m1.1 149 (40 * b + n) = m.1 143 b ∧ m1.1 153 (40 * b + n) = bi ∧ m1.2 158 (40 * b + n) = m.2 139 10
section RBEG
variable {x m : ST} {b n : Int} {k nD : Nat}
theorem r_begins {Q : ST → Int → Prop} (hb : 0 ≤ b ∧ b ≤ 1) (h29 : m.1 139 29 = b) (h32 : m.1 139 32 = k) (h42 : m.1 142 b = n) (h43 : m.1 143 b = nD) (hn : 0 ≤ n ∧ n ≤ 40) (hk : k ≤ 21) (hD : nD ≤ 7) (hop : ∀ i : Int, 0 ≤ i → i < k → 0 ≤ m.1 159 i ∧ m.1 159 i < n) (hc : RDC m) (ht : TKR x m) (h4 : m.1 139 4 = 0)
    (hbad : (F_X11_sortHere m < 0 ∨ n = 40 ∨ 20 < k) → ∀ m', md [(139, 4), (139, 5)] [] m m' → ERR (FIS x (if x.1 46 5 = 4 then 1 else 2)) m' → Q m' 0)
    (hnone : F_X11_sortHere m = 2 → n < 40 → k ≤ 20 → FND m b k nD = none → ∀ m', RM b m m' → m'.1 143 b = nD → ERR (FIS x 4) m' → Q m' 0)
    (hok : ∀ bi, 0 ≤ F_X11_sortHere m → n < 40 → k ≤ 20 → (F_X11_sortHere m ≠ 2 → bi = -1) → (F_X11_sortHere m = 2 → ∃ t, FND m b k nD = some t ∧ bi = if t < 40 then t else t + 60) → ∀ m1, PB2 m m1 b n (F_X11_sortHere m) bi → K_X11_beginsPlace_200 m1 (F_X11_sortHere m) n (40 * b + n) Q) : C_X11_beginsPlace m Q := by
  have hsr := sortHere_r m
  have hfd : ∀ t, FND m b k nD = some t → 0 ≤ t := by
    intro t h
    have := List.mem_of_find?_eq_some h
    rw [List.mem_append] at this
    rcases this with a | a
    · obtain ⟨i, hi, _, rfl⟩ := mem_CLS k a
      exact (hop i hi.1 hi.2).1
    · have := mem_DLS nD a; omega
  generalize hso : F_X11_sortHere m = so at *
  have k32 : (so < 0 ∨ n = 40 ∨ 20 < (k : Int)) → K_X11_beginsPlace_32 m so Q := fun hh => s_X11_beginsPlace_32 fun _ _ => m_misplaced ht h4 fun m' mm er => s_X11_beginsPlace_36 fun _ _ => ⟨fun e => absurd (er.2.1.symm.trans e) er.1, fun _ => hbad (by omega) m' mm er⟩
  have k176 : ∀ m1 t2, md [] [142, 146, 147, 148, 149, 158] m m1 → RM b m m1 → (∀ z, z ≠ 40 * b + n → m1.1 146 z = m.1 146 z ∧ m1.1 149 z = m.1 149 z ∧ m1.2 158 z = m.2 158 z) → m1.1 142 b = n + 1 → m1.1 146 (40 * b + n) = so → m1.1 149 (40 * b + n) = m.1 143 b → m1.2 158 (40 * b + n) = m.2 139 10 → 0 ≤ so → n < 40 → k ≤ 20 → (so ≠ 2 → t2 = -1) → (so = 2 → (FND m b k nD = none ∧ t2 = -1) ∨ ∃ t, FND m b k nD = some t ∧ t2 = if t < 40 then t else t + 60) → K_X11_beginsPlace_176 m1 so n (40 * b + n) (40 * b + n) t2 Q := by
    intro m1 t2 p1 p2 p3 p4 p5 p6 p7 hs0 hn40 hk20 h2n h2y
    have mm : md [] [153] m1 (ui m1 153 (40 * b + n) t2) := (by repeat' (first | exact md.rf | assumption | refine md.ui ?_ ?_ | refine md.uj ?_ ?_ | exact Or.inr (by decide) | exact Or.inl (by decide)))
    have pb : PB2 m (ui m1 153 (40 * b + n) t2) b n so t2 := by
      have pm : md [] [142, 146, 147, 148, 149, 153, 158] m (ui m1 153 (40 * b + n) t2) := (p1.mono (by decide) (by decide)).tr (mm.mono (by decide) (by decide))
      refine ⟨pm, p2.ui (by unfold RW; omega), hc.keep pm (by decide) (by decide), fun z hz => ?_, (ui_cell (by decide)).trans p4, (ui_cell (by decide)).trans p5, (ui_cell (by decide)).trans p6, ui_same, p7⟩
      obtain ⟨a1, a2, a3⟩ := p3 z hz
      exact ⟨(ui_cell (by decide)).trans a1, (ui_cell (by decide)).trans a2, (ui_ne hz).trans (p1.c 153 (by decide) (by decide) z), a3⟩
    have e53 : (ui m1 153 (40 * b + n) t2).1 153 (40 * b + n) = t2 := ui_same
    have e6 : m1.1 139 6 = m.1 139 6 := p1.f 139 6 (by decide) (by decide)
    have ft : ∀ t, FND m b k nD = some t → 0 ≤ (if t < 40 then t else t + 60) := fun t h => by
      have := hfd t h
      split <;> omega
    have nok : so ≠ 2 → K_X11_beginsPlace_200 (ui m1 153 (40 * b + n) t2) so n (40 * b + n) Q := fun hs => hok t2 hs0 hn40 (by omega) h2n (fun e => absurd e hs) _ pb
    refine s_X11_beginsPlace_176 ?_
    rw [e53, e6]
    (repeat' (with_reducible first | refine ⟨?_, ?_⟩ | intro _))
    all_goals first | omega | exact nok (by assumption) | skip
    · rcases h2y (by omega) with ⟨_, h⟩ | h
      · omega
      · exact hok t2 hs0 hn40 (by omega) h2n (fun _ => h) _ pb
    · rcases h2y (by omega) with ⟨h, _⟩ | ⟨t, h, h'⟩
      · have e6' : (ui m1 153 (40 * b + n) t2).1 139 6 = m.1 139 6 := (ui_cell (by decide)).trans e6
        rw [← e6']
        refine m_fails (x := x) (by decide) (ht.1.trans e6'.symm) ((pb.1.f 139 4 (by decide) (by decide)).trans h4) fun m' mm' er => s_X11_beginsPlace_200 fun _ _ _ _ => ⟨fun e => absurd (er.2.1.symm.trans e) er.1, fun _ => hnone (by omega) hn40 (by omega) h m' (pb.2.1.tr (RM.md mm' (by decide))) ((mm'.c 143 (by decide) (by decide) b).trans ((pb.1.c 143 (by decide) (by decide) b).trans h43)) er⟩
      · have := ft t h; omega
  have k147 : ∀ m1 t2, md [] [142, 146, 147, 148, 149] m m1 → RM b m m1 → (∀ z, z ≠ 40 * b + n → m1.1 146 z = m.1 146 z ∧ m1.1 149 z = m.1 149 z) → m1.1 142 b = n + 1 → m1.1 146 (40 * b + n) = so → m1.1 149 (40 * b + n) = m.1 143 b → 0 ≤ so → n < 40 → k ≤ 20 → K_X11_beginsPlace_147 m1 so n (40 * b + n) (40 * b + n) t2 Q := by
    intro m1 t2 p1 p2 p3 p4 p5 p6 hs0 hn40 hk20
    have mm : md [] [147, 158] m1 (uj (ui m1 147 (40 * b + n) t2) 158 (40 * b + n) (m1.2 139 10)) := (by repeat' (first | exact md.rf | assumption | refine md.ui ?_ ?_ | refine md.uj ?_ ?_ | exact Or.inr (by decide) | exact Or.inl (by decide)))
    have pm : md [] [142, 146, 147, 148, 149, 158] m (uj (ui m1 147 (40 * b + n) t2) 158 (40 * b + n) (m1.2 139 10)) := (p1.mono (by decide) (by decide)).tr (mm.mono (by decide) (by decide))
    have rr : RM b m (uj (ui m1 147 (40 * b + n) t2) 158 (40 * b + n) (m1.2 139 10)) := (p2.ui (by unfold RW; omega)).uj (by unfold RW; omega)
    have e10 : m1.2 139 10 = m.2 139 10 := p1.fj 139 10 (by decide) (by decide)
    have q1 : ∀ z, z ≠ 40 * b + n → (uj (ui m1 147 (40 * b + n) t2) 158 (40 * b + n) (m1.2 139 10)).1 146 z = m.1 146 z ∧ (uj (ui m1 147 (40 * b + n) t2) 158 (40 * b + n) (m1.2 139 10)).1 149 z = m.1 149 z ∧ (uj (ui m1 147 (40 * b + n) t2) 158 (40 * b + n) (m1.2 139 10)).2 158 z = m.2 158 z := fun z hz => ⟨by rw [uj_i, ui_cell (by decide)]; exact (p3 z hz).1, by rw [uj_i, ui_cell (by decide)]; exact (p3 z hz).2, (uj_ne hz).trans (p1.cj 158 (by decide) (by decide) z)⟩
    have q2 : (uj (ui m1 147 (40 * b + n) t2) 158 (40 * b + n) (m1.2 139 10)).1 142 b = n + 1 := by rw [uj_i, ui_cell (by decide)]; exact p4
    have q3 : (uj (ui m1 147 (40 * b + n) t2) 158 (40 * b + n) (m1.2 139 10)).1 146 (40 * b + n) = so := by rw [uj_i, ui_cell (by decide)]; exact p5
    have q4 : (uj (ui m1 147 (40 * b + n) t2) 158 (40 * b + n) (m1.2 139 10)).1 149 (40 * b + n) = m.1 143 b := by rw [uj_i, ui_cell (by decide)]; exact p6
    have q5 : (uj (ui m1 147 (40 * b + n) t2) 158 (40 * b + n) (m1.2 139 10)).2 158 (40 * b + n) = m.2 139 10 := uj_same.trans e10
    refine s_X11_beginsPlace_147 ?_
    generalize uj (ui m1 147 (40 * b + n) t2) 158 (40 * b + n) (m1.2 139 10) = m2 at *
    (repeat' (with_reducible first | refine ⟨?_, ?_⟩ | intro _))
    all_goals first | omega | skip
    · exact k176 m2 (-1) pm rr q1 q2 q3 q4 q5 hs0 hn40 hk20 (fun _ => rfl) (fun e => absurd e (by assumption))
    · have e59 : ∀ i, m2.1 159 i = m.1 159 i := fun i => pm.c 159 (by decide) (by decide) i
      have fe : FND m2 b k nD = FND m b k nD := by
        refine FND_eq (fun i i0 i1 => by have := hop i i0 i1; omega) (fun i i0 i1 => ?_) (fun d _ _ => pm.cj 157 (by decide) (by decide) _) (pm.fj 139 10 (by decide) (by decide))
        have hi := hop i i0 i1
        obtain ⟨a1, a2, a3⟩ := q1 (40 * b + m.1 159 i) (by omega)
        exact ⟨e59 i, pm.c 160 (by decide) (by decide) i, a1, a3⟩
      have h2 : so = 2 := by omega
      refine e_X11_meant (b := b) (k := k) (nD := nD) hk hD (fun i i0 i1 => by have := hop i i0 i1; rw [e59]; omega) hb ((pm.f 139 29 (by decide) (by decide)).trans h29) ((pm.f 139 32 (by decide) (by decide)).trans h32) ((pm.c 143 (by decide) (by decide) b).trans h43) (fun hf => ?_) (fun t hf => ?_)
      · exact k176 m2 (-1) pm rr q1 q2 q3 q4 q5 hs0 hn40 hk20 (fun _ => rfl) (fun _ => Or.inl ⟨fe.symm.trans hf, rfl⟩)
      · exact k176 m2 _ pm rr q1 q2 q3 q4 q5 hs0 hn40 hk20 (fun e => absurd h2 e) (fun _ => Or.inr ⟨t, fe.symm.trans hf, rfl⟩)
  have k36 : 0 ≤ so → n < 40 → k ≤ 20 → K_X11_beginsPlace_36 m so Q := by
    intro hs0 hn40 hk20
    have pm : md [] [142, 146, 147, 148, 149] m (ui (ui (ui (ui m 142 b (n + 1)) 146 (40 * b + n) so) 148 (40 * b + n) (m.1 139 6)) 149 (40 * b + n) (m.1 143 b)) := (by repeat' (first | exact md.rf | assumption | refine md.ui ?_ ?_ | refine md.uj ?_ ?_ | exact Or.inr (by decide) | exact Or.inl (by decide)))
    have rr : RM b m (ui (ui (ui (ui m 142 b (n + 1)) 146 (40 * b + n) so) 148 (40 * b + n) (m.1 139 6)) 149 (40 * b + n) (m.1 143 b)) := (((RM.rf.ui (by unfold RW; omega)).ui (by unfold RW; omega)).ui (by unfold RW; omega)).ui (by unfold RW; omega)
    have q1 : ∀ z, z ≠ 40 * b + n → (ui (ui (ui (ui m 142 b (n + 1)) 146 (40 * b + n) so) 148 (40 * b + n) (m.1 139 6)) 149 (40 * b + n) (m.1 143 b)).1 146 z = m.1 146 z ∧ (ui (ui (ui (ui m 142 b (n + 1)) 146 (40 * b + n) so) 148 (40 * b + n) (m.1 139 6)) 149 (40 * b + n) (m.1 143 b)).1 149 z = m.1 149 z := fun z hz => by
      constructor
      · simp (disch := omega) only [ui_cell, ui_ne]
      · simp (disch := omega) only [ui_cell, ui_ne]
    have q2 : (ui (ui (ui (ui m 142 b (n + 1)) 146 (40 * b + n) so) 148 (40 * b + n) (m.1 139 6)) 149 (40 * b + n) (m.1 143 b)).1 142 b = n + 1 := by simp (disch := omega) only [ui_cell, ui_same]
    have q3 : (ui (ui (ui (ui m 142 b (n + 1)) 146 (40 * b + n) so) 148 (40 * b + n) (m.1 139 6)) 149 (40 * b + n) (m.1 143 b)).1 146 (40 * b + n) = so := by simp (disch := omega) only [ui_cell, ui_same]
    have q4 : (ui (ui (ui (ui m 142 b (n + 1)) 146 (40 * b + n) so) 148 (40 * b + n) (m.1 139 6)) 149 (40 * b + n) (m.1 143 b)).1 149 (40 * b + n) = m.1 143 b := ui_same
    refine s_X11_beginsPlace_36 ?_
    rw [h29, h42]
    generalize ui (ui (ui (ui m 142 b (n + 1)) 146 (40 * b + n) so) 148 (40 * b + n) (m.1 139 6)) 149 (40 * b + n) (m.1 143 b) = m2 at *
    (repeat' (with_reducible first | refine ⟨?_, ?_⟩ | intro _))
    all_goals first | omega | exact k147 m2 _ pm rr q1 q2 q3 q4 hs0 hn40 hk20 | exact s_X11_beginsPlace_146 (by intros; exact k147 m2 _ pm rr q1 q2 q3 q4 hs0 hn40 hk20) | exact absurd h4 (by assumption)
  refine s_X11_beginsPlace ?_
  rw [hso, h29, h42, h32]
  (repeat' (with_reducible first | refine ⟨?_, ?_⟩ | intro _))
  all_goals first | omega | exact k32 (by omega) | exact k36 (by omega) (by omega) (by omega)
end RBEG
