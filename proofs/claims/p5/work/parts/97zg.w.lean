/-! THE CLASS: what leaves the other tree's defs alone; a program written anew, hints -/
def KY (s s' : ST) : Prop := KX s s' ∧ s'.1 18 0 = s.1 18 0 ∧ s'.1 18 2 = s.1 18 2 ∧ s'.1 46 = s.1 46 ∧ s'.1 48 = s.1 48
theorem KY.rf {s : ST} (h : IX s) : KY s s := ⟨.rf h, rfl, rfl, rfl, rfl⟩
theorem KY.tr {s s' s'' : ST} (h : KY s s') (k : KY s' s'') : KY s s'' := ⟨h.1.tr k.1, k.2.1.trans h.2.1, k.2.2.1.trans h.2.2.1, k.2.2.2.1.trans h.2.2.2.1, k.2.2.2.2.trans h.2.2.2.2⟩
theorem KY_ui {s s' : ST} {c : Nat} {x v : Int} (h : KY s s') (hc : freeC c) (hx : c ≠ 46 ∧ c ≠ 48 := by omega) : KY s (ui s' c x v) := by
  unfold freeC at hc
  refine ⟨h.1.ui hc, ?_, ?_, ?_, ?_⟩
  · rw [ui_cell (by omega)]; exact h.2.1
  · rw [ui_cell (by omega)]; exact h.2.2.1
  · exact (funext fun y => ui_cell (by omega)).trans h.2.2.2.1
  · exact (funext fun y => ui_cell (by omega)).trans h.2.2.2.2
theorem KY_ut {s s' : ST} {t : Nat} {v : Int} (h : KY s s') (ht : isT t) : KY s (ui s' t 1 v) := by
  refine ⟨h.1.ut ht, ?_, ?_, ?_, ?_⟩
  · by_cases e : t = 18
    · rw [e, ui_ne (by omega)]; exact h.2.1
    · rw [ui_cell (Ne.symm e)]; exact h.2.1
  · by_cases e : t = 18
    · rw [e, ui_ne (by omega)]; exact h.2.2.1
    · rw [ui_cell (Ne.symm e)]; exact h.2.2.1
  · exact (funext fun y => ui_cell (by omega)).trans h.2.2.2.1
  · exact (funext fun y => ui_cell (by omega)).trans h.2.2.2.2
theorem KY_uj {s s' : ST} {c : Nat} {x : Int} {v : Int64} (h : KY s s') (hc : c ≠ 47 := by omega) : KY s (uj s' c x v) := ⟨h.1.uj hc, h.2⟩
section YT
variable {s : ST} {t r o : Nat}
theorem y_X9_addChoice {p q : Int} {Q : ST → Int → Prop} (hr : isW r) (h : IX s) (hQ : ∀ s' v, KY s s' → Q s' v) : C_X9_addChoice t r s p q Q := by
  have k45 : K_X9_addChoice_45 t r s p q Q := by
    refine s_X9_addChoice_45 ?_
    (repeat' (with_reducible first | refine ⟨?_, ?_⟩ | intro _))
    all_goals first | omega | exact hQ _ _ (.rf h) | exact hQ _ _ (KY_ui (.rf h) hr.fr)
  have k10 : ∀ (n : Nat) (a4 : Int64) (a6 : Int), 48 - a6 ≤ (n : Int) → 0 ≤ a6 → K_X9_addChoice_10 t r s p q a4 a6 Q := by
    intro n
    induction n with
    | zero =>
      intro a4 a6 hn h0
      refine s_X9_addChoice_10 ?_
      (repeat' (with_reducible first | refine ⟨?_, ?_⟩ | intro _))
      all_goals first | omega | exact k45 | exact P_word _ _ _ | exact hQ _ _ (.rf h)
    | succ n ih =>
      intro a4 a6 hn h0
      refine s_X9_addChoice_10 ?_
      (repeat' (with_reducible first | refine ⟨?_, ?_⟩ | intro _))
      all_goals first | omega | exact k45 | exact hQ _ _ (.rf h) | exact ih _ _ (by omega) (by omega)
  refine s_X9_addChoice ?_
  (repeat' (with_reducible first | refine ⟨?_, ?_⟩ | intro _))
  all_goals first | omega | exact k10 48 _ 0 (by omega) (by omega)
theorem y_X9_choicesAt {p : Int} {Q : ST → Int → Prop} (hr : isW r) (h : IX s) (hQ : ∀ s' v, KY s s' → Q s' v) : C_X9_choicesAt t r s p Q := by
  have k118 : ∀ (n : Nat) (s1 : ST) (a3 a6 : Int), a6 + 1 ≤ (n : Int) → KY s s1 → K_X9_choicesAt_118 t r s1 a3 a6 Q := by
    intro n
    induction n with
    | zero =>
      intro s1 a3 a6 hn k
      refine s_X9_choicesAt_118 ?_
      (repeat' (with_reducible first | refine ⟨?_, ?_⟩ | intro _))
      all_goals first | omega | exact hQ _ _ k
    | succ n ih =>
      intro s1 a3 a6 hn k
      refine s_X9_choicesAt_118 ?_
      intro _ _ h6
      (repeat' (with_reducible first | refine ⟨?_, ?_⟩ | intro _))
      all_goals first | exact hQ _ _ k | skip
      refine y_X9_addChoice hr k.1.1 fun s2 v k2 => ?_
      refine ⟨?_, ih _ _ _ (by omega) (k.tr k2)⟩
      unfold R32 at *
      omega
  have k108 : ∀ (s1 : ST) (a1 a3 : Int), 0 ≤ a1 → a1 < 40 → KY s s1 → K_X9_choicesAt_108 t r s1 a1 a3 Q := by
    intro s1 a1 a3 h0 h1 k
    refine s_X9_choicesAt_108 ?_
    (repeat' (with_reducible first | refine ⟨?_, ?_⟩ | intro _))
    all_goals first | omega | exact k118 (w32 (s1.1 (t + 5) a1 - 1) + 1).toNat _ _ _ (by omega) k
  have k26 : ∀ (n : Nat) (s1 : ST) (a1 a3 a4 a5 a6 : Int), 40 - a6 ≤ (n : Int) → 0 ≤ a6 → 0 ≤ a1 → a1 < 40 → KY s s1 → K_X9_choicesAt_26 t r s1 a1 a3 a4 a5 a6 Q := by
    intro n
    induction n with
    | zero =>
      intro s1 a1 a3 a4 a5 a6 hn h6 h0 h1 k
      refine s_X9_choicesAt_26 ?_
      (repeat' (with_reducible first | refine ⟨?_, ?_⟩ | intro _))
      all_goals first | omega | exact k108 _ _ _ h0 h1 k
    | succ n ih =>
      intro s1 a1 a3 a4 a5 a6 hn h6 h0 h1 k
      have k89 : ∀ s2 b3, KY s s2 → a6 < 40 → 0 ≤ a5 ∧ a5 < 40 → K_X9_choicesAt_89 t r s2 a1 b3 a5 a6 Q := by
        intro s2 b3 k2 h7 h5
        refine s_X9_choicesAt_89 ?_
        (repeat' (with_reducible first | refine ⟨?_, ?_⟩ | intro _))
        all_goals first | omega | exact ih _ _ _ _ _ _ (by omega) (by omega) h0 h1 k2
      have k80 : a6 < 40 → 0 ≤ a5 ∧ a5 < 40 → K_X9_choicesAt_80 t r s1 a1 a3 a5 a6 Q := by
        intro h7 h5
        refine s_X9_choicesAt_80 ?_
        (repeat' (with_reducible first | refine ⟨?_, ?_⟩ | intro _))
        exact y_X9_addChoice hr k.1.1 fun s2 v k2 => k89 s2 v (k.tr k2) h7 h5
      refine s_X9_choicesAt_26 ?_
      (repeat' (with_reducible first | refine ⟨?_, ?_⟩ | intro _))
      all_goals first | omega | exact k108 _ _ _ h0 h1 k | exact k80 (by omega) (by omega) | exact k89 _ _ k (by omega) (by omega)
  refine s_X9_choicesAt ?_
  (repeat' (with_reducible first | refine ⟨?_, ?_⟩ | intro _))
  all_goals first | omega | exact hQ _ _ (.rf h) | exact k26 40 _ _ _ _ _ _ (by omega) (by omega) (by omega) (by omega) (.rf h)
theorem y_X9_copyPlace {p q : Int} {Q : ST → Prop} (ht : isT t) (h : IX s) (hQ : ∀ s', KY s s' → Q s') : C_X9_copyPlace t o s p q Q := by
  refine s_X9_copyPlace ?_
  (repeat' (with_reducible first | refine ⟨?_, ?_⟩ | intro _))
  all_goals first | omega | exact hQ _ (.rf h) | skip
  exact hQ _ (KY_ui (KY_ui (KY_uj (KY_ui (KY_ui (KY_ui (.rf h) (ht.fr (by decide))) (ht.fr (by decide))) (ht.fr (by decide)))) (ht.fr (by decide))) (ht.fr (by decide)))
theorem y_X9_add {p q u : Int} {Q : ST → Int → Prop} (ht : isT t) (h : IX s) (hQ : ∀ s' v, KY s s' → (v = -1 ∨ 0 ≤ v ∧ v < 40) → Q s' v) : C_X9_add t s p q u Q := by
  have k128 : ∀ (n : Nat) (s1 : ST) (a4 a5 : Int), 3 - a5 ≤ (n : Int) → 0 ≤ a5 → 0 ≤ a4 → a4 < 40 → 0 ≤ u → u < 8 → KY s s1 → K_X9_add_128 t s1 p q u a4 a5 Q := by
    intro n
    induction n with
    | zero =>
      intro s1 a4 a5 hn h0 h1 h2 h3 h4 k
      refine s_X9_add_128 ?_
      (repeat' (with_reducible first | refine ⟨?_, ?_⟩ | intro _))
      all_goals first | omega | exact hQ _ _ k (by omega) | exact hQ _ _ (KY_ui k (ht.fr (by decide))) (by omega)
    | succ n ih =>
      intro s1 a4 a5 hn h0 h1 h2 h3 h4 k
      refine s_X9_add_128 ?_
      (repeat' (with_reducible first | refine ⟨?_, ?_⟩ | intro _))
      all_goals first | omega | exact hQ _ _ k (by omega) | exact hQ _ _ (KY_ui k (ht.fr (by decide))) (by omega) | exact ih _ _ _ (by omega) (by omega) h1 h2 h3 h4 (KY_ui k (ht.fr (by decide)))
  refine s_X9_add ?_
  (repeat' (with_reducible first | refine ⟨?_, ?_⟩ | intro _))
  all_goals first | omega | exact hQ _ _ (.rf h) (by omega) | skip
  have f : ∀ k, 1 ≤ k ∧ k ≤ 14 → freeC (t + k) := fun k hk => ht.fr hk
  exact k128 3 _ _ _ (by omega) (by omega) (by omega) (by omega) (by omega) (by omega) (KY_ui (KY_ui (KY_ui (KY_uj (KY_ui (KY_ui (KY_ui (KY_ui (KY_ui (KY_ui (KY_ut (.rf h) ht) (f 3 (by decide))) (f 4 (by decide))) (f 5 (by decide))) (f 6 (by decide))) (f 7 (by decide))) (f 8 (by decide)))) (f 11 (by decide))) (f 12 (by decide))) (f 13 (by decide)))
end YT
