/-! READING ALIKE: the ASKINGS counted (4) -/
def TOTx (x : ST) (A : Int → Int) : Nat → Int
  | 0 => 0
  | d + 1 => TOTx x A d + A (x.1 20 (d : Int))
section CNT4
variable {x : ST} {N : Int} {A0 : Int → Int} {nD : Nat}
theorem TOT_mono {A : Int → Int} (hA : ∀ d : Int, 0 ≤ d → d < nD → 0 ≤ A (x.1 20 d)) : ∀ j k : Nat, j + k ≤ nD → TOTx x A j ≤ TOTx x A (j + k) := by
  intro j k
  induction k with
  | zero => intro _; exact Int.le_refl _
  | succ k ih =>
    intro h
    have := ih (by omega)
    have h2 := hA ((j + k : Nat) : Int) (by omega) (by omega)
    show TOTx x A j ≤ TOTx x A (j + k) + A (x.1 20 ((j + k : Nat) : Int))
    omega
theorem e_list {Q : ST → Prop} (ix : IX x) (tr0 : TRE x N A0) (h180 : x.1 18 0 = nD) (hD : nD ≤ 8) (hrt : ∀ d : Int, 0 ≤ d → d < nD → 0 ≤ x.1 20 d ∧ x.1 20 d < N) (hQ : ∀ s', LF 59 x s' → ((s'.1 59 1 = 0 ∧ ∀ A, TRE x N A → TOTx x A nD ≤ 400) ∨ (s'.1 59 1 ≠ 0 ∧ ∀ A, TRE x N A → 401 ≤ TOTx x A nD)) → Q s') : C_X0_list 59 x Q := by
  have hA : ∀ A, TRE x N A → ∀ d : Int, 0 ≤ d → d < nD → 0 ≤ A (x.1 20 d) := fun A tre d d0 d1 => by
    have := hrt d d0 d1
    have := (tre.2 _ this.1 this.2).2.1.1
    omega
  have k50f : ∀ s (a : Int), LF 59 x s → 0 ≤ a → s.1 59 1 ≠ 0 → (∀ A, TRE x N A → 401 ≤ TOTx x A nD) → K_X0_list_50 59 s a Q := by
    intro s a lf h0 h1 hT
    refine s_X0_list_50 ?_
    (repeat' (with_reducible first | refine ⟨?_, ?_⟩ | intro _))
    all_goals first | exact hQ s lf (Or.inr ⟨h1, hT⟩) | exact absurd (by assumption) h1 | omega
  have k50 : ∀ (j : Nat) (s : ST) (d : Nat), nD - d = j → d ≤ nD → LF 59 x s → s.1 59 1 = 0 → (0 ≤ s.1 59 0 ∧ s.1 59 0 ≤ 400) → (∀ A, TRE x N A → INVP (TOTx x A nD) (s.1 59 0 + (TOTx x A nD - TOTx x A d))) → K_X0_list_50 59 s d Q := by
    intro j
    induction j with
    | zero =>
      intro s d hj hd lf h1 h0 inv
      have ed : d = nD := by omega
      have e180 : s.1 (akT 59) 0 = nD := (lf.2 18 0 (Or.inl (by decide))).1.trans h180
      refine s_X0_list_50 ?_
      rw [e180]
      have hq : Q s := hQ s lf (Or.inl ⟨h1, fun A tre => by have inv := inv A tre; unfold INVP at inv; rw [ed] at inv; omega⟩)
      (repeat' (with_reducible first | refine ⟨?_, ?_⟩ | intro _))
      all_goals first | exact hq | omega
    | succ j ih =>
      intro s d hj hd lf h1 h0 inv
      have e180 : s.1 (akT 59) 0 = nD := (lf.2 18 0 (Or.inl (by decide))).1.trans h180
      have hr := hrt (d : Int) (by omega) (by omega)
      have hrest : ∀ A, TRE x N A → 0 ≤ TOTx x A nD - TOTx x A (d + 1) := fun A tre => by
        have := TOT_mono (hA A tre) (d + 1) (nD - (d + 1)) (by omega)
        rw [show d + 1 + (nD - (d + 1)) = nD by omega] at this
        omega
      have etot : ∀ A, TOTx x A (d + 1) = TOTx x A d + A (x.1 20 (d : Int)) := fun _ => rfl
      have l0 : LF 59 x (ui s 59 15 0) := LF_put (Or.inr rfl) lf (by omega) (fun _ e => by omega) (fun e => by omega)
      have eroot : F_X9_rootOf (akT 59) (ui s 59 15 0) d = x.1 20 d := by
        unfold F_X9_rootOf
        rw [show akT 59 = 18 from rfl, (l0.2 18 0 (Or.inl (by decide))).1, h180, if_neg (by omega), if_neg (by omega), if_neg (by omega)]
        exact (l0.2 20 _ (Or.inl (by decide))).1
      have k95 : ∀ (i : Nat) (s2 : ST) (a2 : Int), 401 - a2 ≤ (i : Int) → 0 ≤ a2 → LF 59 x s2 → ((s2.1 59 1 ≠ 0 ∧ ∀ A, TRE x N A → 401 ≤ TOTx x A nD) ∨ (s2.1 59 1 = 0 ∧ PIL s2 N ∧ (∀ A, TRE x N A → INVP (TOTx x A nD) (VLU s2 A + (TOTx x A nD - TOTx x A (d + 1)))) ∧ (a2 ≤ s2.1 59 0 ∧ s2.1 59 0 ≤ 400))) → K_X0_list_95 59 s2 d a2 Q := by
        intro i
        induction i with
        | zero =>
          intro s2 a2 hi h2 l2 hs
          have nx : (∀ A, TRE x N A → 401 ≤ TOTx x A nD) → s2.1 59 1 ≠ 0 → K_X0_list_50 59 s2 ((d : Int) + 1) Q := fun hT h => k50f s2 _ l2 (by omega) h hT
          rcases hs with ⟨f1, f2⟩ | ⟨f1, f2, f3, f4⟩
          · refine s_X0_list_95 ?_
            (repeat' (with_reducible first | refine ⟨?_, ?_⟩ | intro _))
            all_goals first | omega | exact nx f2 f1 | exact absurd (by assumption) f1
          · omega
        | succ i ihi =>
          intro s2 a2 hi h2 l2 hs
          rcases hs with ⟨f1, f2⟩ | ⟨f1, f2, f3, f4⟩
          · have nx := k50f s2 ((d : Int) + 1) l2 (by omega) f1 f2
            refine s_X0_list_95 ?_
            (repeat' (with_reducible first | refine ⟨?_, ?_⟩ | intro _))
            all_goals first | omega | exact nx | exact absurd (by assumption) f1
          · by_cases c15 : s2.1 59 15 ≤ 0
            · have hv : ∀ A, VLU s2 A = s2.1 59 0 := fun A => by
                unfold VLU
                rw [show (s2.1 59 15).toNat = 0 by omega]
                show s2.1 59 0 + 0 = _; omega
              have nx := ih s2 (d + 1) (by omega) (by omega) l2 f1 (by omega) (fun A tre => by have f3 := f3 A tre; rw [hv] at f3; exact f3)
              rw [show ((d + 1 : Nat) : Int) = (d : Int) + 1 by omega] at nx
              refine s_X0_list_95 ?_
              (repeat' (with_reducible first | refine ⟨?_, ?_⟩ | intro _))
              all_goals first | omega | exact nx
            · have lo : C_X0_listOne 59 s2 (fun s4 => R32 (a2 + 1) ∧ K_X0_list_95 59 s4 d (a2 + 1) Q) := by
                refine e_listOne (T := fun A => TOTx x A nD) (R := fun A => TOTx x A nD - TOTx x A (d + 1)) l2 tr0 f2 (by omega) f1 (by omega) hrest f3 fun s4 l4 h4 => ⟨by unfold R32; omega, ihi s4 (a2 + 1) (by omega) (by omega) l4 ?_⟩
                rcases h4 with h4 | ⟨g1, g2, g3, g4, g5⟩
                · exact Or.inl h4
                · exact Or.inr ⟨g1, g2, g3, by omega⟩
              refine s_X0_list_95 ?_
              (repeat' (with_reducible first | refine ⟨?_, ?_⟩ | intro _))
              all_goals first | omega | exact lo | skip
      have e0 : (ui s 59 15 0).1 59 0 = s.1 59 0 := ui_ne (by decide)
      have e1 : (ui s 59 15 0).1 59 1 = 0 := (ui_ne (by decide)).trans h1
      have e15 : (ui s 59 15 0).1 59 15 = 0 := ui_same
      have pu : C_X0_pileUp 59 (ui s 59 15 0) (x.1 20 d) (-1) 0 (fun s3 => K_X0_list_95 59 s3 d 0 Q) := by
        refine e_pile (T := fun A => TOTx x A nD) (R := fun A => TOTx x A nD - TOTx x A (d + 1)) l0 ⟨by omega, fun i i0 i1 => by omega⟩ hr (by omega) hrest (fun A tre => ?_) fun s3 l3 p3 i3 g0 g1 => k95 401 s3 0 (by omega) (by omega) l3 (Or.inr ⟨g1.trans e1, p3, i3, by omega⟩)
        have hv : VLU (ui s 59 15 0) A = s.1 59 0 := by
          unfold VLU
          rw [e15, e0]
          show s.1 59 0 + 0 = _; omega
        show INVP (TOTx x A nD) (VLU (ui s 59 15 0) A + A (x.1 20 d) + (TOTx x A nD - TOTx x A (d + 1)))
        have := etot A
        rw [hv, show s.1 59 0 + A (x.1 20 d) + (TOTx x A nD - TOTx x A (d + 1)) = s.1 59 0 + (TOTx x A nD - TOTx x A d) by omega]
        exact inv A tre
      refine s_X0_list_50 ?_
      rw [e180, eroot]
      (repeat' (with_reducible first | refine ⟨?_, ?_⟩ | intro _))
      all_goals first | omega | exact P_root _ _ _ | exact pu | exact absurd h1 (by assumption)
  have k22 : ∀ (j : Nat) (s : ST) (a1 : Int), 40 - a1 ≤ (j : Int) → 0 ≤ a1 → LF 59 x s → s.1 59 0 = 0 → s.1 59 1 = 0 → K_X0_list_22 59 s a1 Q := by
    intro j
    have fin : ∀ s, LF 59 x s → s.1 59 0 = 0 → s.1 59 1 = 0 → K_X0_list_50 59 s 0 Q := by
      intro s lf h0 h1
      refine k50 nD s 0 (by omega) (by omega) lf h1 (by omega) ?_
      intro A _
      have e : TOTx x A 0 = 0 := rfl
      rw [h0, e]
      unfold INVP; omega
    induction j with
    | zero =>
      intro s a1 hj ha lf h0 h1
      refine s_X0_list_22 ?_
      (repeat' (with_reducible first | refine ⟨?_, ?_⟩ | intro _))
      all_goals first | omega | exact fin s lf h0 h1
    | succ j ih =>
      intro s a1 hj ha lf h0 h1
      refine s_X0_list_22 ?_
      (repeat' (with_reducible first | refine ⟨?_, ?_⟩ | intro _))
      all_goals first | omega | exact fin s lf h0 h1 | skip
      exact ih _ _ (by omega) (by omega) (LF_put (Or.inr rfl) (LF_put (Or.inr rfl) lf (by omega) (fun e => by omega) (fun e => by omega)) (by omega) (fun e => by omega) (fun e => by omega)) h0 h1
  refine s_X0_list ?_
  (repeat' (with_reducible first | refine ⟨?_, ?_⟩ | intro _))
  exact k22 40 _ 0 (by omega) (by omega) (LF_put (Or.inr rfl) (LF_put (Or.inr rfl) (LF_put (Or.inr rfl) (LF_put (Or.inr rfl) (LF.rf ix) (by omega) (fun _ _ => by omega) (fun e => by omega)) (by omega) (fun _ e => by omega) (fun e => by omega)) (by omega) (fun _ e => by omega) (fun e => by omega)) (by omega) (fun _ e => by omega) (fun e => by omega)) (by simp (disch := omega) only [ui_ne, ui_same]) (by simp (disch := omega) only [ui_ne, ui_same])
end CNT4
