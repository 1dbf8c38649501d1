/-! READING ALIKE: the ASKINGS counted (3) -/
section CNT3
variable {x : ST} {N : Int} {T : (Int → Int) → Int} {A0 : Int → Int}
theorem e_listOne {s : ST} {R : (Int → Int) → Int} {Q : ST → Prop} (lf : LF 59 x s) (tr0 : TRE x N A0) (pl : PIL s N) (h15 : 1 ≤ s.1 59 15) (h1 : s.1 59 1 = 0) (h0 : 0 ≤ s.1 59 0 ∧ s.1 59 0 ≤ 400) (hR : ∀ A, TRE x N A → 0 ≤ R A) (inv : ∀ A, TRE x N A → INVP (T A) (VLU s A + R A)) (hQ : ∀ s', LF 59 x s' → ((s'.1 59 1 ≠ 0 ∧ ∀ A, TRE x N A → 401 ≤ T A) ∨ (s'.1 59 1 = 0 ∧ PIL s' N ∧ (∀ A, TRE x N A → INVP (T A) (VLU s' A + R A)) ∧ s'.1 59 0 = s.1 59 0 + 1 ∧ s'.1 59 0 ≤ 400)) → Q s') : C_X0_listOne 59 s Q := by
  obtain ⟨pl1, pl2⟩ := id pl
  have hp := pl2 (s.1 59 15 - 1) (by omega) (by omega)
  have hN := tr0.1
  have hge : ∀ A, TRE x N A → _ := fun A tre => PWs_ge (A := A) (f := s.1 64) (s.1 59 15).toNat (fun i i0 i1 => by
    have := pl2 i i0 (by omega)
    exact (tre.2 _ this.1 this.2).2.1.1)
  have hvl : ∀ A, VLU s A = s.1 59 0 + (PWs A (s.1 64) (s.1 59 15 - 1).toNat + A (s.1 64 (s.1 59 15 - 1))) := fun A => by
    unfold VLU
    rw [show (s.1 59 15).toNat = (s.1 59 15 - 1).toNat + 1 by omega]
    show s.1 59 0 + (PWs A (s.1 64) (s.1 59 15 - 1).toNat + A (s.1 64 (((s.1 59 15 - 1).toNat : Nat) : Int))) = _
    rw [show (((s.1 59 15 - 1).toNat : Nat) : Int) = s.1 59 15 - 1 by omega]
  have l0 : LF 59 x (ui s 59 15 (s.1 59 15 - 1)) := LF_put (Or.inr rfl) lf (by omega) (fun _ e => by omega) (fun e => by omega)
  have k28 : 400 ≤ s.1 59 0 → K_X0_listOne_28 59 (ui s 59 15 (s.1 59 15 - 1)) Q := by
    intro hc
    have l1 : LF 59 x (ui (ui s 59 15 (s.1 59 15 - 1)) 59 1 1) := LF_put (Or.inr rfl) l0 (by omega) (fun _ e => by omega) (fun e => by omega)
    have e1 : (ui (ui s 59 15 (s.1 59 15 - 1)) 59 1 1).1 59 1 = 1 := ui_same
    refine s_X0_listOne_28 fun _ _ => s_X0_listOne_33 fun _ _ _ => ⟨Or.inr rfl, fun _ => ?_, fun h => ?_⟩
    · refine hQ _ l1 (Or.inl ⟨by rw [e1]; decide, fun A tre => ?_⟩)
      have inv := inv A tre
      have hR := hR A tre
      have hge := hge A tre
      unfold INVP VLU at inv
      omega
    · rw [e1] at h; omega
  have k33 : s.1 59 0 < 400 → K_X0_listOne_33 59 (ui s 59 15 (s.1 59 15 - 1)) 0 Q := by
    intro hc
    have l1 : LF 59 x (ui (ui s 59 15 (s.1 59 15 - 1)) 59 1 0) := LF_put (Or.inr rfl) l0 (by omega) (fun _ e => by omega) (fun e => by omega)
    have e1 : (ui (ui s 59 15 (s.1 59 15 - 1)) 59 1 0).1 59 1 = 0 := ui_same
    have e15 : (ui (ui s 59 15 (s.1 59 15 - 1)) 59 1 0).1 59 15 = s.1 59 15 - 1 := (ui_ne (by decide)).trans ui_same
    have e0 : (ui (ui s 59 15 (s.1 59 15 - 1)) 59 1 0).1 59 0 = s.1 59 0 := (ui_ne (by decide)).trans (ui_ne (by decide))
    have e64 : ∀ z, (ui (ui s 59 15 (s.1 59 15 - 1)) 59 1 0).1 64 z = s.1 64 z := fun z => rfl
    have e181 : (ui (ui s 59 15 (s.1 59 15 - 1)) 59 1 0).1 18 1 = N := (l1.2 18 1 (Or.inl (by decide))).1.trans tr0.1.1
    have k155 : ∀ s5, LF 59 x s5 → s5.1 59 0 = s.1 59 0 + 1 → s5.1 59 1 = 0 → s5.1 59 15 = s.1 59 15 - 1 → (∀ z, s5.1 64 z = s.1 64 z) → K_X0_listOne_155 59 s5 (s.1 59 0) (s.1 64 (s.1 59 15 - 1)) Q := by
      intro s5 l5 f0 f1 f15 f64
      have l6 : LF 59 x (ui s5 (59 + 4) (s.1 64 (s.1 59 15 - 1)) (s.1 59 0)) := LF_put (Or.inr rfl) l5 (by omega) (fun e => by omega) (fun e => by omega)
      have g181 : (ui s5 (59 + 4) (s.1 64 (s.1 59 15 - 1)) (s.1 59 0)).1 18 1 = N := (l6.2 18 1 (Or.inl (by decide))).1.trans tr0.1.1
      have g21 : (ui s5 (59 + 4) (s.1 64 (s.1 59 15 - 1)) (s.1 59 0)).1 21 (s.1 64 (s.1 59 15 - 1)) = x.1 21 (s.1 64 (s.1 59 15 - 1)) := (l6.2 21 _ (Or.inl (by decide))).1
      have hso := (tr0.2 _ hp.1 hp.2).1
      have har := arity_ar (x := ui s5 (59 + 4) (s.1 64 (s.1 59 15 - 1)) (s.1 59 0)) (p := s.1 64 (s.1 59 15 - 1)) (by omega) (by rw [g21]; exact hso)
      rw [g21] at har
      have arr := ar_r (x.1 21 (s.1 64 (s.1 59 15 - 1)))
      have h0' : (ui s5 (59 + 4) (s.1 64 (s.1 59 15 - 1)) (s.1 59 0)).1 59 0 = s.1 59 0 + 1 := (ui_cell (by decide)).trans f0
      have h1' : (ui s5 (59 + 4) (s.1 64 (s.1 59 15 - 1)) (s.1 59 0)).1 59 1 = 0 := (ui_cell (by decide)).trans f1
      have h15' : (ui s5 (59 + 4) (s.1 64 (s.1 59 15 - 1)) (s.1 59 0)).1 59 15 = s.1 59 15 - 1 := (ui_cell (by decide)).trans f15
      have h64' : ∀ z, (ui s5 (59 + 4) (s.1 64 (s.1 59 15 - 1)) (s.1 59 0)).1 64 z = s.1 64 z := fun z => (ui_cell (by decide)).trans (f64 z)
      refine s_X0_listOne_155 ?_
      rw [show akT 59 = 18 from rfl, har]
      generalize ui s5 (59 + 4) (s.1 64 (s.1 59 15 - 1)) (s.1 59 0) = s6 at *
      refine fun _ _ _ _ => ⟨by omega, P_arity _ _ _, by unfold R32; omega, ?_⟩
      have := e_173 (T := T) (c := s.1 59 0 + 1) (p := s.1 64 (s.1 59 15 - 1)) (R := R) (Q := Q) tr0 hp hR (by omega) (fun s' l' q1 q2 q3 q4 => hQ s' l' (Or.inr ⟨q1, q2, q3, q4, by omega⟩)) (ar (x.1 21 (s.1 64 (s.1 59 15 - 1)))).toNat s6 (s.1 59 0) (by omega) l6 ⟨by omega, fun i i0 i1 => by rw [h64']; exact pl2 i i0 (by omega)⟩ h0' h1' (fun A tre => ?_)
      · rw [show (((ar (x.1 21 (s.1 64 (s.1 59 15 - 1)))).toNat : Nat) : Int) = ar (x.1 21 (s.1 64 (s.1 59 15 - 1))) by omega] at this
        exact this
      · have hv6 : VLU s6 A = s.1 59 0 + 1 + PWs A (s.1 64) (s.1 59 15 - 1).toNat := by
          unfold VLU
          rw [h0', h15', PWs_congr (f := s.1 64) _ fun i i0 i1 => h64' i]
        have c1 := (tre.2 _ hp.1 hp.2).2.2.1
        have c2 := (tre.2 _ hp.1 hp.2).2.2.2.1
        have hpw := PWs_ge (A := A) (f := s.1 64) (s.1 59 15 - 1).toNat (fun i i0 i1 => by
          have := pl2 i i0 (by omega)
          exact (tre.2 _ this.1 this.2).2.1.1)
        have hAp := (tre.2 _ hp.1 hp.2).2.1
        have inv := inv A tre
        have hR := hR A tre
        rw [hvl] at inv
        rw [hv6]
        unfold INVP at *
        by_cases cA : A (s.1 64 (s.1 59 15 - 1)) < 1000000
        · have := c1 cA; omega
        · have := c2 (by omega); omega
    refine s_X0_listOne_33 ?_
    rw [e1, e15, e0]
    generalize ui (ui s 59 15 (s.1 59 15 - 1)) 59 1 0 = s2 at *
    simp (disch := omega) only [ui_cell, ui_ne]
    rw [show akT 59 = 18 from rfl, e181, show s2.1 (59 + 5) = s.1 64 from funext e64, e15]
    have l4 : LF 59 x (ui (ui s2 59 0 (s.1 59 0 + 1)) (59 + 1) (s.1 59 0) (s.1 64 (s.1 59 15 - 1))) := LF_put (Or.inr rfl) (LF_put (Or.inr rfl) l1 (by omega) (fun _ _ => by omega) (fun e => by omega)) (by omega) (fun e => by omega) (fun e => by omega)
    have f0 : (ui (ui s2 59 0 (s.1 59 0 + 1)) (59 + 1) (s.1 59 0) (s.1 64 (s.1 59 15 - 1))).1 59 0 = s.1 59 0 + 1 := (ui_cell (by decide)).trans ui_same
    have f1 : (ui (ui s2 59 0 (s.1 59 0 + 1)) (59 + 1) (s.1 59 0) (s.1 64 (s.1 59 15 - 1))).1 59 1 = 0 := (ui_cell (by decide)).trans ((ui_ne (by decide)).trans e1)
    have f15 : (ui (ui s2 59 0 (s.1 59 0 + 1)) (59 + 1) (s.1 59 0) (s.1 64 (s.1 59 15 - 1))).1 59 15 = s.1 59 15 - 1 := (ui_cell (by decide)).trans ((ui_ne (by decide)).trans e15)
    have f64 : ∀ z, (ui (ui s2 59 0 (s.1 59 0 + 1)) (59 + 1) (s.1 59 0) (s.1 64 (s.1 59 15 - 1))).1 64 z = s.1 64 z := fun z => (ui_cell (by decide)).trans ((ui_cell (by decide)).trans (e64 z))
    have nx : ∀ s5, LF 59 x s5 → s5.1 59 0 = s.1 59 0 + 1 → s5.1 59 1 = 0 → s5.1 59 15 = s.1 59 15 - 1 → (∀ z, s5.1 64 z = s.1 64 z) → ((0 : Int) ≤ s.1 64 (s.1 59 15 - 1) ∧ s.1 64 (s.1 59 15 - 1) < 40) ∧ ((¬ s5.1 (59 + 3) (s.1 64 (s.1 59 15 - 1)) = (-1) → K_X0_listOne_155 59 s5 (s.1 59 0) (s.1 64 (s.1 59 15 - 1)) Q) ∧ (s5.1 (59 + 3) (s.1 64 (s.1 59 15 - 1)) = (-1) → K_X0_listOne_155 59 (ui s5 (59 + 3) (s.1 64 (s.1 59 15 - 1)) (s.1 59 0)) (s.1 59 0) (s.1 64 (s.1 59 15 - 1)) Q)) := fun s5 l5 g0 g1 g15 g64 => ⟨by omega, fun _ => k155 s5 l5 g0 g1 g15 g64, fun _ => k155 _ (LF_put (Or.inr rfl) l5 (by omega) (fun e => by omega) (fun e => by omega)) ((ui_cell (by decide)).trans g0) ((ui_cell (by decide)).trans g1) ((ui_cell (by decide)).trans g15) (fun z => (ui_cell (by decide)).trans (g64 z))⟩
    generalize ui (ui s2 59 0 (s.1 59 0 + 1)) (59 + 1) (s.1 59 0) (s.1 64 (s.1 59 15 - 1)) = s4 at *
    have sp : ∀ p q u, C_X0_setPart 59 s4 p q u (fun s10 => ((0 : Int) ≤ s.1 64 (s.1 59 15 - 1) ∧ s.1 64 (s.1 59 15 - 1) < 40) ∧ ((¬ s10.1 (59 + 3) (s.1 64 (s.1 59 15 - 1)) = (-1) → K_X0_listOne_155 59 s10 (s.1 59 0) (s.1 64 (s.1 59 15 - 1)) Q) ∧ (s10.1 (59 + 3) (s.1 64 (s.1 59 15 - 1)) = (-1) → K_X0_listOne_155 59 (ui s10 (59 + 3) (s.1 64 (s.1 59 15 - 1)) (s.1 59 0)) (s.1 59 0) (s.1 64 (s.1 59 15 - 1)) Q))) := by
      intro p q u
      have n4 := nx s4 l4 f0 f1 f15 f64
      have n5 := fun z v => nx (ui s4 (59 + 2) z v) (LF_put (Or.inr rfl) l4 (by omega) (fun e => by omega) (fun e => by omega)) ((ui_cell (by decide)).trans f0) ((ui_cell (by decide)).trans f1) ((ui_cell (by decide)).trans f15) (fun z => (ui_cell (by decide)).trans (f64 z))
      exact s_X0_setPart fun _ _ _ _ _ => ⟨fun _ => n4, fun _ => ⟨fun _ => n4, fun _ => ⟨fun _ => n4, fun _ => ⟨fun _ => n4, fun _ => ⟨by unfold R32; omega, by unfold R32; omega, by omega, n5 _ _⟩⟩⟩⟩⟩
    (repeat' (with_reducible first | refine ⟨?_, ?_⟩ | intro _))
    all_goals first | omega | trivial | exact absurd trivial (by assumption) | (unfold P_X0_kindNode R32; omega) | exact sp _ _ _
  refine s_X0_listOne ?_
  have e0 : (ui s 59 15 (s.1 59 15 - 1)).1 59 0 = s.1 59 0 := ui_ne (by decide)
  rw [e0]
  (repeat' (with_reducible first | refine ⟨?_, ?_⟩ | intro _))
  all_goals first | omega | exact k28 (by omega) | exact k33 (by omega)
end CNT3
