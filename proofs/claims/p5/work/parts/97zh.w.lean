/-! THE CLASS: a program written anew; hints -/
section X2S
variable {s0 s : ST} {o : Nat}
theorem KY_pile {s s' : ST} {v : Int} (h : KY s s') (hv : v ≤ 43) : KY s (ui s' 17 6 v) :=
  ⟨h.1.tr (h.1.1.vals (funext fun y => ui_cell (by decide)) (funext fun y => ui_cell (by decide)) (funext fun y => ui_cell (by decide)) (funext fun y => ui_cell (by decide)) (funext fun y => ui_cell (by decide)) rfl (by rw [ui_same]; exact hv) h.1.1.2.1 h.1.1.2.2.1 (h.1.1.zx.put (fun e => by omega) (fun e => by omega))), by rw [ui_cell (by decide)]; exact h.2.1, by rw [ui_cell (by decide)]; exact h.2.2.1, (funext fun y => ui_cell (by decide)).trans h.2.2.2.1, (funext fun y => ui_cell (by decide)).trans h.2.2.2.2⟩
theorem y_X2_pileUp {p q u : Int} {Q : ST → Prop} (k : KY s0 s) (hQ : ∀ s', KY s0 s' → Q s') : C_X2_pileUp s p q u Q := by
  refine s_X2_pileUp ?_
  (repeat' (with_reducible first | refine ⟨?_, ?_⟩ | intro _))
  all_goals first | omega | exact hQ _ k | skip
  exact hQ _ (KY_pile (KY_ui (KY_ui (KY_ui k (by unfold freeC; omega)) (by unfold freeC; omega)) (by unfold freeC; omega)) (by omega))
theorem P_moved (s : ST) (p : Int) : P_X2_movedTo s p := fun _ _ => by omega
theorem y_X2_writePlace {p q : Int} {Q : ST → Prop} (ho : isT o) (k : KY s0 s) (hQ : ∀ s', KY s0 s' → Q s') : C_X2_writePlace o s p q Q := by
  have k1 : KY s0 (ui s 33 p q) := KY_ui k (by unfold freeC; omega)
  refine s_X2_writePlace ?_
  (repeat' (with_reducible first | refine ⟨?_, ?_⟩ | intro _))
  all_goals first | omega | exact hQ _ k | skip
  refine y_X9_copyPlace (Or.inr (Or.inl rfl)) k1.1.1 fun s4 k4 => ?_
  exact ⟨P_moved _ _, by omega, hQ _ (KY_ui (k1.tr k4) (by unfold freeC; omega))⟩
theorem y_X2_changePlace {p q u : Int} {Q : ST → Prop} (ho : isT o) (k : KY s0 s) (hQ : ∀ s', KY s0 s' → Q s') : C_X2_changePlace o s p q u Q := by
  have f : ∀ (s : ST) (c : Nat) (x v : Int), c = 21 ∨ c = 22 ∨ c = 24 ∨ c = 29 → KY s0 s → KY s0 (ui s c x v) := fun s c x v hc k => KY_ui k (by unfold freeC; omega) (by omega)
  refine s_X2_changePlace ?_
  (repeat' (with_reducible first | refine ⟨?_, ?_⟩ | intro _))
  all_goals first | omega | exact P_moved _ _ | exact hQ _ k | exact hQ _ (f _ _ _ _ (by decide) (f _ _ _ _ (by decide) k)) | exact hQ _ (f _ _ _ _ (by decide) (f _ _ _ _ (by decide) (f _ _ _ _ (by decide) (f _ _ _ _ (by decide) k)))) | skip
  refine y_X9_choicesAt (Or.inl rfl) k.1.1 fun s4 v k4 => ?_
  have k5 := k.tr k4
  (repeat' (with_reducible first | refine ⟨?_, ?_⟩ | intro _))
  all_goals first | omega | exact P_moved _ _ | exact hQ _ k5 | exact hQ _ (f _ _ _ _ (by decide) k5)
theorem y_X2_pileKids {p q : Int} {Q : ST → Prop} (k : KY s0 s) (hQ : ∀ s', KY s0 s' → Q s') : C_X2_pileKids o s p q Q := by
  have k19 : ∀ (n : Nat) (s1 : ST) (a4 a5 : Int), a5 + 1 ≤ (n : Int) → -1 ≤ a5 → 0 ≤ a4 ∧ a4 ≤ 3 → a5 ≤ 3 → KY s0 s1 → K_X2_pileKids_19 o s1 p q a4 a5 Q := by
    intro n
    induction n with
    | zero =>
      intro s1 a4 a5 hn h5 h4 h6 k1
      refine s_X2_pileKids_19 ?_
      (repeat' (with_reducible first | refine ⟨?_, ?_⟩ | intro _))
      all_goals first | omega | exact hQ _ k1
    | succ n ih =>
      intro s1 a4 a5 hn h5 h4 h6 k1
      have k52 : ∀ a6, 0 ≤ a5 → K_X2_pileKids_52 o s1 p q a4 a5 a6 Q := by
        intro a6 h0
        refine s_X2_pileKids_52 ?_
        intros
        refine ⟨P_kid _ _ _ _, P_moved _ _, y_X2_pileUp k1 fun s2 k2 => ⟨by omega, ih _ _ _ (by omega) (by omega) h4 (by omega) k2⟩⟩
      refine s_X2_pileKids_19 ?_
      (repeat' (with_reducible first | refine ⟨?_, ?_⟩ | intro _))
      all_goals first | omega | exact hQ _ k1 | exact k52 _ (by omega)
  have har := arity_r s o p
  refine s_X2_pileKids ?_
  intros
  refine ⟨fun _ => ⟨P_arity _ _ _, by omega, k19 4 _ _ _ (by omega) (by omega) har (by omega) k⟩, fun _ => hQ _ k⟩
end X2S
