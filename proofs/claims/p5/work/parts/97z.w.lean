/-! THE CLASS: makeTold; the invariant between calls -/
theorem c_X4_makeTold {s0 : ST} {o : Nat} {p : Int} {Q : ST → Int → Prop} (h : KI s0) (hQ : ∀ s' v, md [(38, 2)] [39, 40, 41, 42, 44] s0 s' → KI s' → Q s' v) : C_X4_makeTold o s0 p Q := by
  have k162 : ∀ s a, md [(38, 2)] [39, 40, 41, 42, 44] s0 s → KI s → a ≤ 5604 → K_X4_makeTold_162 o s a Q := by
    intro s a m hk ha
    refine s_X4_makeTold_162 ?_
    (repeat' (with_reducible first | refine ⟨?_, ?_⟩ | intro _))
    all_goals first | omega | exact hQ _ _ m hk
  have k32 : ∀ (n : Nat) (s : ST) (a3 a4 a5 : Int), a5 + 1 ≤ (n : Int) → md [(38, 2)] [39, 40, 41, 42, 44] s0 s → KI s → (0 ≤ a4 ∧ a4 ≤ 5604 ∧ (a5 < 20 → a4 + a5 ≤ 20)) → K_X4_makeTold_32 o s a3 a4 a5 Q := by
    intro n
    induction n with
    | zero =>
      intro s a3 a4 a5 hn m hk ha
      refine s_X4_makeTold_32 ?_
      (repeat' (with_reducible first | refine ⟨?_, ?_⟩ | intro _))
      all_goals first | omega | exact k162 s _ m hk (by omega)
    | succ n ih =>
      intro s a3 a4 a5 hn m hk ha
      have k134 : ∀ a6 a8 a9 t, 0 ≤ a5 → a5 < 20 → 0 ≤ t → t ≤ a4 → K_X4_makeTold_134 o s a3 a5 a6 a8 a9 t Q := by
        intro a6 a8 a9 t h5 h6 h7 h8
        refine s_X4_makeTold_134 fun _ _ _ _ _ _ _ _ => c_X4_make hk fun s1 v m1 k1 => ?_
        (repeat' (with_reducible first | refine ⟨?_, ?_⟩ | intro _))
        all_goals first | omega | skip
        exact ih _ _ _ _ (by omega) (m.tr ((m1.mono (by decide) (by decide)).tr (by repeat' (first | exact md.rf | assumption | refine md.ui ?_ ?_ | refine md.uj ?_ ?_ | exact Or.inr (by decide) | exact Or.inl (by decide))))) k1 (by omega)
      have k116 : ∀ a6 a7 a8 t, 0 ≤ a7 → 0 ≤ a5 → a5 < 20 → K_X4_makeTold_116 o s a3 a4 a5 a6 a7 a8 t Q := by
        intro a6 a7 a8 t h7 h5 h6
        refine s_X4_makeTold_116 ?_
        (repeat' (with_reducible first | refine ⟨?_, ?_⟩ | intro _))
        all_goals first | omega | exact k134 _ _ _ _ h5 h6 (by omega) (by omega)
      have k89 : ∀ a6 a7 t, 0 ≤ a7 → 0 ≤ a5 → a5 < 20 → K_X4_makeTold_89 o s a3 a4 a5 a6 a7 t Q := by
        intro a6 a7 t h7 h5 h6
        have k115 : ∀ t, K_X4_makeTold_115 o s a3 a4 a5 a6 a7 t Q := fun t => s_X4_makeTold_115 fun _ _ _ _ _ _ _ _ => k116 _ _ _ _ h7 h5 h6
        refine s_X4_makeTold_89 ?_
        (repeat' (with_reducible first | refine ⟨?_, ?_⟩ | intro _))
        all_goals first | omega | exact k115 _ | exact k116 _ _ _ _ h7 h5 h6
      refine s_X4_makeTold_32 ?_
      have hka := ka_r s (s.1 (o + 14) a5)
      (repeat' (with_reducible first | refine ⟨?_, ?_⟩ | intro _))
      all_goals first | omega | exact k162 s _ m hk (by omega) | skip
      all_goals first | exact k89 _ _ _ hka.1 (by omega) (by omega) | exact s_X4_makeTold_88 fun _ _ _ _ _ _ _ => k89 _ _ _ hka.1 (by omega) (by omega)
  refine s_X4_makeTold ?_
  (repeat' (with_reducible first | refine ⟨?_, ?_⟩ | intro _))
  all_goals first | omega | exact hQ _ _ md.rf h | skip
  refine k32 (w32 (w32 (s0.1 (o + 12) p + s0.1 (o + 13) p) - 1) + 1).toNat s0 _ 0 _ (by omega) md.rf h (by omega)
def AK (s : ST) (a : Nat) : Prop := ((0 ≤ s.1 a 0 ∧ s.1 a 0 ≤ 400) ∧ (s.1 a 3 = 0 ∨ s.1 a 3 = 1)) ∧ ∀ i, 0 ≤ i → i < 40 → (-1 ≤ s.1 (a + 3) i ∧ s.1 (a + 3) i < 400) ∧ (-1 ≤ s.1 (a + 4) i ∧ s.1 (a + 4) i < 400)
def ZX (s : ST) : Prop := (0 ≤ s.1 2 0 ∧ 0 ≤ s.1 18 0 ∧ 0 ≤ s.1 94 0 ∧ 0 ≤ s.1 109 0 ∧ 0 ≤ s.1 124 0) ∧ ∀ i, s.1 49 i ≤ 20
theorem put_at {s : ST} {c d : Nat} {x y v : Int} {P : Int → Prop} (h : P (s.1 d y)) (hv : c = d → x = y → P v) : P ((ui s c x v).1 d y) := by
  by_cases e : c = d
  · by_cases e2 : x = y
    · rw [← e, ← e2, ui_same]; exact hv e e2
    · rw [← e, ui_ne (Ne.symm e2), e]; exact h
  · rw [ui_cell (Ne.symm e)]; exact h
theorem ZX.put {s : ST} {c : Nat} {x v : Int} (h : ZX s) (ht : isT c → x = 0 → 0 ≤ v) (h9 : c = 49 → v ≤ 20) : ZX (ui s c x v) :=
  ⟨⟨put_at (P := fun z => 0 ≤ z) h.1.1 fun e => ht (by omega), put_at (P := fun z => 0 ≤ z) h.1.2.1 fun e => ht (by omega), put_at (P := fun z => 0 ≤ z) h.1.2.2.1 fun e => ht (by omega), put_at (P := fun z => 0 ≤ z) h.1.2.2.2.1 fun e => ht (by omega), put_at (P := fun z => 0 ≤ z) h.1.2.2.2.2 fun e => ht (by omega)⟩, fun i => put_at (P := fun z => z ≤ 20) (h.2 i) fun e _ => h9 e⟩
theorem ZX.t0 {s : ST} {t : Nat} (h : ZX s) (ht : isT t) : 0 ≤ s.1 t 0 := by
  rcases ht with rfl | rfl | rfl | rfl | rfl
  · exact h.1.1
  · exact h.1.2.1
  · exact h.1.2.2.1
  · exact h.1.2.2.2.1
  · exact h.1.2.2.2.2
def IX (s : ST) : Prop := KI s ∧ AK s 51 ∧ AK s 59 ∧ (0 ≤ s.1 0 1 ∧ s.1 0 1 ≤ 1600) ∧ (0 ≤ s.1 0 2 ∧ s.1 0 2 ≤ 100000) ∧ s.1 17 6 ≤ 43 ∧ ZX s
theorem IX.zx {s : ST} (h : IX s) : ZX s := h.2.2.2.2.2.2
def KX (s s' : ST) : Prop := IX s' ∧ s'.1 0 1 = s.1 0 1 ∧ s'.1 0 2 = s.1 0 2 ∧ s'.1 1 = s.1 1 ∧ s'.1 46 = s.1 46 ∧ s'.2 47 = s.2 47
theorem KX.rf {s : ST} (h : IX s) : KX s s := ⟨h, rfl, rfl, rfl, rfl, rfl⟩
theorem KX.tr {s s' s'' : ST} (h : KX s s') (k : KX s' s'') : KX s s'' := ⟨k.1, k.2.1.trans h.2.1, k.2.2.1.trans h.2.2.1, k.2.2.2.1.trans h.2.2.2.1, k.2.2.2.2.1.trans h.2.2.2.2.1, k.2.2.2.2.2.trans h.2.2.2.2.2⟩
def freeC (c : Nat) : Prop := c ≠ 17 ∧ c ≠ 0 ∧ c ≠ 38 ∧ c ≠ 39 ∧ c ≠ 51 ∧ c ≠ 54 ∧ c ≠ 55 ∧ c ≠ 59 ∧ c ≠ 62 ∧ c ≠ 63 ∧ c ≠ 49 ∧ c ≠ 2 ∧ c ≠ 18 ∧ c ≠ 94 ∧ c ≠ 109 ∧ c ≠ 124 ∧ c ≠ 1 ∧ c ≠ 46
theorem IX.cells {s s' : ST} (h : IX s) (e : ∀ c, c = 17 ∨ c = 0 ∨ c = 38 ∨ c = 39 ∨ c = 51 ∨ c = 54 ∨ c = 55 ∨ c = 59 ∨ c = 62 ∨ c = 63 ∨ c = 49 ∨ c = 2 ∨ c = 18 ∨ c = 94 ∨ c = 109 ∨ c = 124 ∨ c = 1 ∨ c = 46 → s'.1 c = s.1 c) (e2 : s'.2 47 = s.2 47 := by rfl) : KX s s' := by
  refine ⟨?_, by rw [e 0 (by decide)], by rw [e 0 (by decide)], e 1 (by decide), e 46 (by decide), e2⟩
  unfold IX KI AK ZX at *
  rw [e 17 (by decide), e 38 (by decide), e 39 (by decide), e 51 (by decide), e 59 (by decide), e 0 (by decide), show (51 : Nat) + 3 = 54 from rfl, show (51 : Nat) + 4 = 55 from rfl, show (59 : Nat) + 3 = 62 from rfl, show (59 : Nat) + 4 = 63 from rfl, e 54 (by decide), e 55 (by decide), e 62 (by decide), e 63 (by decide), e 49 (by decide), e 2 (by decide), e 18 (by decide), e 94 (by decide), e 109 (by decide), e 124 (by decide)]
  exact h
theorem IX.ui {s : ST} {c : Nat} {x v : Int} (h : IX s) (hc : freeC c) : KX s (ui s c x v) := h.cells fun d hd => funext fun y => ui_cell (by unfold freeC at hc; omega)
theorem KX.ut {s s' : ST} {t : Nat} {x v : Int} (h : KX s s') (ht : isT t) (hx : x = 0 → 0 ≤ v := by omega) : KX s (ui s' t x v) :=
  h.tr ⟨⟨(by have e := h.1.1; unfold KI at *; rw [show (ui s' t x v).1 38 = s'.1 38 from funext fun y => ui_cell (by omega), show (ui s' t x v).1 39 = s'.1 39 from funext fun y => ui_cell (by omega)]; exact e), (by have e := h.1.2.1; unfold AK at *; rw [show (ui s' t x v).1 51 = s'.1 51 from funext fun y => ui_cell (by omega), show (ui s' t x v).1 (51 + 3) = s'.1 (51 + 3) from funext fun y => ui_cell (by omega), show (ui s' t x v).1 (51 + 4) = s'.1 (51 + 4) from funext fun y => ui_cell (by omega)]; exact e), (by have e := h.1.2.2.1; unfold AK at *; rw [show (ui s' t x v).1 59 = s'.1 59 from funext fun y => ui_cell (by omega), show (ui s' t x v).1 (59 + 3) = s'.1 (59 + 3) from funext fun y => ui_cell (by omega), show (ui s' t x v).1 (59 + 4) = s'.1 (59 + 4) from funext fun y => ui_cell (by omega)]; exact e), (by rw [ui_cell (by omega)]; exact h.1.2.2.2.1), (by rw [ui_cell (by omega)]; exact h.1.2.2.2.2.1), (by rw [ui_cell (by omega)]; exact h.1.2.2.2.2.2.1), h.1.zx.put (fun _ => hx) (fun e => by omega)⟩, ui_cell (by omega), ui_cell (by omega), funext fun y => ui_cell (by omega), funext fun y => ui_cell (by omega), rfl⟩
theorem KX.ui {s s' : ST} {c : Nat} {x v : Int} (h : KX s s') (hc : freeC c) : KX s (ui s' c x v) := h.tr (h.1.ui hc)
theorem KX.uj {s s' : ST} {c : Nat} {x : Int} {v : Int64} (h : KX s s') (hc : c ≠ 47 := by omega) : KX s (uj s' c x v) := ⟨h.1, h.2.1, h.2.2.1, h.2.2.2.1, h.2.2.2.2.1, (funext fun y => uj_cell (Ne.symm hc)).trans h.2.2.2.2.2⟩
theorem KX.k {s s' s'' : ST} {fs : List (Nat × Int)} {cs : List Nat} (h : KX s s') (hm : md fs cs s' s'') (h1 : (fs.all fun q => decide (q.1 = 38)) = true) (h2 : (cs.all fun a => decide (38 ≤ a ∧ a ≤ 45)) = true) (hk : KI s'') : KX s s'' := by
  have e : ∀ c, ¬ (38 ≤ c ∧ c ≤ 45) → s''.1 c = s'.1 c := fun c hc => funext fun x => (hm c x (fun q => by
    have := of_decide_eq_true (List.all_eq_true.mp h1 _ q)
    exact hc (by have h3 : c = 38 := this; omega)) (fun q => hc (of_decide_eq_true (List.all_eq_true.mp h2 _ q)))).1
  obtain ⟨⟨_, i2, i3, i4, i5, i6, i7⟩, h6, h7, h8, h9, h10⟩ := h
  refine ⟨⟨hk, ?_, ?_, ?_, ?_, ?_, ?_⟩, ?_, ?_, (e 1 (by decide)).trans h8, (e 46 (by decide)).trans h9, (funext fun x => (hm 47 x (fun q => by
    have := of_decide_eq_true (List.all_eq_true.mp h1 _ q)
    exact absurd this (show ¬ (47 : Nat) = 38 by decide)) (fun q => absurd (of_decide_eq_true (List.all_eq_true.mp h2 _ q)) (by decide))).2).trans h10⟩
  · unfold AK at *
    rw [e 51 (by decide), e (51 + 3) (by decide), e (51 + 4) (by decide)]; exact i2
  · unfold AK at *
    rw [e 59 (by decide), e (59 + 3) (by decide), e (59 + 4) (by decide)]; exact i3
  · rw [e 0 (by decide)]; exact i4
  · rw [e 0 (by decide)]; exact i5
  · rw [e 17 (by decide)]; exact i6
  · unfold ZX at *; rw [e 49 (by decide), e 2 (by decide), e 18 (by decide), e 94 (by decide), e 109 (by decide), e 124 (by decide)]; exact i7
  · rw [e 0 (by decide)]; exact h6
  · rw [e 0 (by decide)]; exact h7
