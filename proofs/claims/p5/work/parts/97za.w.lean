/-! THE CLASS: trees -/
def FC (c : Nat) : Bool := decide (c = 0) || decide (c = 38) || decide (c = 39) || decide (c = 51) || decide (c = 54) || decide (c = 55) || decide (c = 59) || decide (c = 62) || decide (c = 63)
theorem isT.fr {t k : Nat} (h : isT t) (hk : 1 ≤ k ∧ k ≤ 14) : freeC (t + k) := by unfold freeC; omega
theorem isW.fr {r : Nat} (h : isW r) : freeC r := by unfold freeC; omega
theorem KX.cpI {s s' : ST} {i j : Nat} {k : Int} (h : KX s s') (hc : freeC j) : KX s (cpI s' i j k) := h.tr (h.1.cells fun d hd => funext fun y => cpI_cell (by unfold freeC at hc; omega))
theorem KX.cpJ {s s' : ST} {i j : Nat} {k : Int} (h : KX s s') (hc : j ≠ 47 := by omega) : KX s (cpJ s' i j k) := ⟨h.1, h.2.1, h.2.2.1, h.2.2.2.1, h.2.2.2.2.1, (funext fun y => cpJ_cell (Ne.symm hc)).trans h.2.2.2.2.2⟩
section XT
variable {s : ST} {t r o : Nat}
theorem P_word (s : ST) (t : Nat) (p : Int) : P_X9_wordOf t s p := ⟨fun _ _ _ _ => by omega, fun _ _ _ => by omega⟩
theorem x_X9_addChoice {p q : Int} {Q : ST → Int → Prop} (hr : isW r) (h : IX s) (hQ : ∀ s' v, KX s s' → Q s' v) : C_X9_addChoice t r s p q Q := by
  have k45 : K_X9_addChoice_45 t r s p q Q := by
    refine s_X9_addChoice_45 ?_
    (repeat' (with_reducible first | refine ⟨?_, ?_⟩ | intro _))
    all_goals first | omega | exact hQ _ _ (.rf h) | exact hQ _ _ (h.ui hr.fr)
  have k10 : ∀ (n : Nat) (a4 : Int64) (a6 : Int), 48 - a6 ≤ (n : Int) → 0 ≤ a6 → K_X9_addChoice_10 t r s p q a4 a6 Q := by
    intro n
    induction n with
    | zero =>
      intro a4 a6 hn h0
      refine s_X9_addChoice_10 ?_
      (repeat' (with_reducible first | refine ⟨?_, ?_⟩ | intro _))
      all_goals first | omega | exact k45 | exact P_word _ _ _ | exact hQ _ _ (.rf h)
    | succ n ih =>
      intro a4 a6 hn h0
      refine s_X9_addChoice_10 ?_
      (repeat' (with_reducible first | refine ⟨?_, ?_⟩ | intro _))
      all_goals first | omega | exact k45 | exact hQ _ _ (.rf h) | exact ih _ _ (by omega) (by omega)
  refine s_X9_addChoice ?_
  (repeat' (with_reducible first | refine ⟨?_, ?_⟩ | intro _))
  all_goals first | omega | exact k10 48 _ 0 (by omega) (by omega)
theorem x_X9_choicesAt {p : Int} {Q : ST → Int → Prop} (hr : isW r) (h : IX s) (hQ : ∀ s' v, KX s s' → Q s' v) : C_X9_choicesAt t r s p Q := by
  have k118 : ∀ (n : Nat) (s1 : ST) (a3 a6 : Int), a6 + 1 ≤ (n : Int) → KX s s1 → K_X9_choicesAt_118 t r s1 a3 a6 Q := by
    intro n
    induction n with
    | zero =>
      intro s1 a3 a6 hn k
      refine s_X9_choicesAt_118 ?_
      (repeat' (with_reducible first | refine ⟨?_, ?_⟩ | intro _))
      all_goals first | omega | exact hQ _ _ k
    | succ n ih =>
      intro s1 a3 a6 hn k
      refine s_X9_choicesAt_118 ?_
      intro _ _ h6
      (repeat' (with_reducible first | refine ⟨?_, ?_⟩ | intro _))
      all_goals first | exact hQ _ _ k | skip
      refine x_X9_addChoice hr k.1 fun s2 v k2 => ?_
      refine ⟨?_, ih _ _ _ (by omega) (k.tr k2)⟩
      unfold R32 at *
      omega
  have k108 : ∀ (s1 : ST) (a1 a3 : Int), 0 ≤ a1 → a1 < 40 → KX s s1 → K_X9_choicesAt_108 t r s1 a1 a3 Q := by
    intro s1 a1 a3 h0 h1 k
    refine s_X9_choicesAt_108 ?_
    (repeat' (with_reducible first | refine ⟨?_, ?_⟩ | intro _))
    all_goals first | omega | exact k118 (w32 (s1.1 (t + 5) a1 - 1) + 1).toNat _ _ _ (by omega) k
  have k26 : ∀ (n : Nat) (s1 : ST) (a1 a3 a4 a5 a6 : Int), 40 - a6 ≤ (n : Int) → 0 ≤ a6 → 0 ≤ a1 → a1 < 40 → KX s s1 → K_X9_choicesAt_26 t r s1 a1 a3 a4 a5 a6 Q := by
    intro n
    induction n with
    | zero =>
      intro s1 a1 a3 a4 a5 a6 hn h6 h0 h1 k
      refine s_X9_choicesAt_26 ?_
      (repeat' (with_reducible first | refine ⟨?_, ?_⟩ | intro _))
      all_goals first | omega | exact k108 _ _ _ h0 h1 k
    | succ n ih =>
      intro s1 a1 a3 a4 a5 a6 hn h6 h0 h1 k
      have k89 : ∀ s2 b3, KX s s2 → a6 < 40 → 0 ≤ a5 ∧ a5 < 40 → K_X9_choicesAt_89 t r s2 a1 b3 a5 a6 Q := by
        intro s2 b3 k2 h7 h5
        refine s_X9_choicesAt_89 ?_
        (repeat' (with_reducible first | refine ⟨?_, ?_⟩ | intro _))
        all_goals first | omega | exact ih _ _ _ _ _ _ (by omega) (by omega) h0 h1 k2
      have k80 : a6 < 40 → 0 ≤ a5 ∧ a5 < 40 → K_X9_choicesAt_80 t r s1 a1 a3 a5 a6 Q := by
        intro h7 h5
        refine s_X9_choicesAt_80 ?_
        (repeat' (with_reducible first | refine ⟨?_, ?_⟩ | intro _))
        exact x_X9_addChoice hr k.1 fun s2 v k2 => k89 s2 v (k.tr k2) h7 h5
      refine s_X9_choicesAt_26 ?_
      (repeat' (with_reducible first | refine ⟨?_, ?_⟩ | intro _))
      all_goals first | omega | exact k108 _ _ _ h0 h1 k | exact k80 (by omega) (by omega) | exact k89 _ _ k (by omega) (by omega)
  refine s_X9_choicesAt ?_
  (repeat' (with_reducible first | refine ⟨?_, ?_⟩ | intro _))
  all_goals first | omega | exact hQ _ _ (.rf h) | exact k26 40 _ _ _ _ _ _ (by omega) (by omega) (by omega) (by omega) (.rf h)
theorem x_X9_clear {Q : ST → Prop} (ht : isT t) (h : IX s) (hQ : ∀ s', KX s s' → Q s') : C_X9_clear t s Q :=
  s_X9_clear fun _ _ => hQ _ ((((KX.rf h).ut ht).ut ht).ut ht)
theorem x_X9_copyKindWords {Q : ST → Prop} (ht : isT t) (h : IX s) (hQ : ∀ s', KX s s' → Q s') : C_X9_copyKindWords t o s Q :=
  s_X9_copyKindWords fun _ _ _ => hQ _ (((KX.rf h).ut ht).cpI (ht.fr (k := 14) (by decide)))
theorem x_X9_copyFrom {Q : ST → Prop} (ht : isT t) (h : IX s) (hQ : ∀ s', KX s s' → Q s') : C_X9_copyFrom t o s Q := by
  refine s_X9_copyFrom fun _ ho _ => ?_
  have k0 := ((KX.rf h).ut (x := 0) (v := s.1 o 0) ht (fun _ => h.zx.t0 ho)).ut (x := 1) (v := (ui s t 0 (s.1 o 0)).1 o 1) ht
  refine x_X9_copyKindWords ht k0.1 fun s1 k1 => ?_
  have k2 : KX s s1 := k0.tr k1
  have f : ∀ k, 1 ≤ k ∧ k ≤ 14 → freeC (t + k) := fun k hk => ht.fr hk
  exact hQ _ ((((((((((((k2.cpJ.cpI (f 2 (by decide))).cpI (f 3 (by decide))).cpI (f 4 (by decide))).cpI (f 5 (by decide))).cpI (f 6 (by decide))).cpI (f 7 (by decide))).cpI (f 8 (by decide))).cpI (f 9 (by decide))).cpJ).cpI (f 11 (by decide))).cpI (f 12 (by decide))).cpI (f 13 (by decide)))
theorem x_X9_trustOfAll {Q : ST → Int → Prop} (hQ : ∀ v, Q s v) : C_X9_trustOfAll t s Q := by
  have k4 : ∀ (n : Nat) (a1 a2 : Int), 40 - a2 ≤ (n : Int) → 0 ≤ a2 → K_X9_trustOfAll_4 t s a1 a2 Q := by
    intro n
    induction n with
    | zero =>
      intro a1 a2 hn h0
      refine s_X9_trustOfAll_4 ?_
      (repeat' (with_reducible first | refine ⟨?_, ?_⟩ | intro _))
      all_goals first | omega | exact hQ _
    | succ n ih =>
      intro a1 a2 hn h0
      refine s_X9_trustOfAll_4 ?_
      (repeat' (with_reducible first | refine ⟨?_, ?_⟩ | intro _))
      all_goals first | omega | exact hQ _ | exact ih _ _ (by omega) (by omega)
  exact s_X9_trustOfAll fun _ _ => k4 40 0 0 (by omega) (by omega)
theorem x_X9_copyPlace {p q : Int} {Q : ST → Prop} (ht : isT t) (h : IX s) (hQ : ∀ s', KX s s' → Q s') : C_X9_copyPlace t o s p q Q := by
  refine s_X9_copyPlace ?_
  (repeat' (with_reducible first | refine ⟨?_, ?_⟩ | intro _))
  all_goals first | omega | exact hQ _ (.rf h) | skip
  exact hQ _ ((((((KX.rf h).ui (ht.fr (by decide))).ui (ht.fr (by decide))).ui (ht.fr (by decide))).uj.ui (ht.fr (by decide))).ui (ht.fr (by decide)))
theorem x_X9_add {p q u : Int} {Q : ST → Int → Prop} (ht : isT t) (h : IX s) (hQ : ∀ s' v, KX s s' → (v = -1 ∨ 0 ≤ v ∧ v < 40) → Q s' v) : C_X9_add t s p q u Q := by
  have k128 : ∀ (n : Nat) (s1 : ST) (a4 a5 : Int), 3 - a5 ≤ (n : Int) → 0 ≤ a5 → 0 ≤ a4 → a4 < 40 → 0 ≤ u → u < 8 → KX s s1 → K_X9_add_128 t s1 p q u a4 a5 Q := by
    intro n
    induction n with
    | zero =>
      intro s1 a4 a5 hn h0 h1 h2 h3 h4 k
      refine s_X9_add_128 ?_
      (repeat' (with_reducible first | refine ⟨?_, ?_⟩ | intro _))
      all_goals first | omega | exact hQ _ _ k (by omega) | exact hQ _ _ (k.ui (ht.fr (by decide))) (by omega)
    | succ n ih =>
      intro s1 a4 a5 hn h0 h1 h2 h3 h4 k
      refine s_X9_add_128 ?_
      (repeat' (with_reducible first | refine ⟨?_, ?_⟩ | intro _))
      all_goals first | omega | exact hQ _ _ k (by omega) | exact hQ _ _ (k.ui (ht.fr (by decide))) (by omega) | exact ih _ _ _ (by omega) (by omega) h1 h2 h3 h4 (k.ui (ht.fr (by decide)))
  refine s_X9_add ?_
  (repeat' (with_reducible first | refine ⟨?_, ?_⟩ | intro _))
  all_goals first | omega | exact hQ _ _ (.rf h) (by omega) | skip
  have f : ∀ k, 1 ≤ k ∧ k ≤ 14 → freeC (t + k) := fun k hk => ht.fr hk
  exact k128 3 _ _ _ (by omega) (by omega) (by omega) (by omega) (by omega) (by omega) ((((((((((((KX.rf h).ut ht).ui (f 3 (by decide))).ui (f 4 (by decide))).ui (f 5 (by decide))).ui (f 6 (by decide))).ui (f 7 (by decide))).ui (f 8 (by decide))).uj).ui (f 11 (by decide))).ui (f 12 (by decide))).ui (f 13 (by decide)))
end XT
