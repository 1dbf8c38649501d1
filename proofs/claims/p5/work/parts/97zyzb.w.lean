/-! READING ALIKE: the ASKINGS counted (2) -/
section CNT2
variable {x : ST} {N : Int} {T : (Int → Int) → Int} {A0 : Int → Int}
theorem e_meant {s : ST} {p q : Int} {R : (Int → Int) → Int} {Q : ST → Prop} (lf : LF 59 x s) (tr0 : TRE x N A0) (pl : PIL s N) (hp : 0 ≤ p ∧ p < N) (h2 : x.1 21 p = 2) (h0 : 0 ≤ s.1 59 0) (hR : ∀ A, TRE x N A → 0 ≤ R A) (inv : ∀ A, TRE x N A → INVP (T A) (VLU s A + XWm x A p + R A)) (hQ : ∀ s', LF 59 x s' → PIL s' N → (∀ A, TRE x N A → INVP (T A) (VLU s' A + R A)) → s'.1 59 0 = s.1 59 0 → s'.1 59 1 = s.1 59 1 → Q s') : C_X0_listMeant 59 s p q Q := by
  have mb := mb_LF lf p
  have ht := (tr0.2 p hp.1 hp.2).2.2.2.2.2 h2
  have ak := lf.1.1.ak (Or.inr rfl)
  have hx : ∀ A, XWm x A p = if MBx x p = -1 then 0 else A (MBx x p) := fun A => by unfold XWm; rw [if_pos h2]
  refine s_X0_listMeant fun _ _ _ _ => ⟨P_meantBy _ _ _, P_target _ _ _, fun e => ?_, fun e => ?_⟩
  · rw [show akT 59 = 18 from rfl, mb] at e
    have inv' : ∀ A, TRE x N A → INVP (T A) (VLU s A + R A) := fun A tre => by
      have := inv A tre
      rw [hx, if_pos e] at this
      rw [show VLU s A + R A = VLU s A + 0 + R A by omega]; exact this
    have hq : Q s := hQ s lf pl inv' rfl rfl
    refine ⟨fun _ => hq, fun hh => ?_⟩
    have hb : 0 ≤ F_X9_targetOf (akT 59) s p ∧ F_X9_targetOf (akT 59) s p < 40 := by omega
    have hk := ak.2 _ hb.1 hb.2
    refine ⟨hb, ⟨by unfold R32; omega, by unfold R32; omega⟩, ?_⟩
    refine s_X0_setPart ?_
    (repeat' (with_reducible first | refine ⟨?_, ?_⟩ | intro _))
    all_goals first | omega | exact hq | skip
    exact hQ _ (LF_put (Or.inr rfl) lf (by omega) (fun e => by omega) (fun e => by omega)) pl inv' (ui_cell (by decide)) (ui_cell (by decide))
  · rw [show akT 59 = 18 from rfl, mb] at e ⊢
    exact e_pile (T := T) (R := R) lf pl (by omega) h0 hR (fun A tre => by have := inv A tre; rw [hx, if_neg e] at this; exact this) hQ
theorem e_173 {c p : Int} {R : (Int → Int) → Int} {Q : ST → Prop} (tr0 : TRE x N A0) (hp : 0 ≤ p ∧ p < N) (hR : ∀ A, TRE x N A → 0 ≤ R A) (hc : 0 ≤ c) (hQ : ∀ s', LF 59 x s' → s'.1 59 1 = 0 → PIL s' N → (∀ A, TRE x N A → INVP (T A) (VLU s' A + R A)) → s'.1 59 0 = c → Q s') : ∀ (j : Nat) (s : ST) (a1 : Int), (j : Int) ≤ ar (x.1 21 p) → LF 59 x s → PIL s N → s.1 59 0 = c → s.1 59 1 = 0 → (∀ A, TRE x N A → INVP (T A) (VLU s A + KSn x A p j + XWm x A p + R A)) → K_X0_listOne_173 59 s a1 p ((j : Int) - 1) Q := by
  have hX : ∀ A, TRE x N A → 0 ≤ XWm x A p := fun A tre => by
    unfold XWm
    split
    · split
      · omega
      · have := (tre.2 p hp.1 hp.2).2.2.2.2.2 (by assumption)
        have := (tre.2 (MBx x p) (by omega) (by omega)).2.1.1
        omega
    · omega
  have hN := tr0.1
  intro j
  induction j with
  | zero =>
    intro s a1 hj lf pl h0 h1 inv
    have e21 : s.1 (akT 59 + 3) p = x.1 21 p := (lf.2 21 p (Or.inl (by decide))).1
    have inv' : ∀ A, TRE x N A → INVP (T A) (VLU s A + XWm x A p + R A) := fun A tre => by
      have e : KSn x A p 0 = 0 := rfl
      have inv := inv A tre
      rw [e] at inv
      rw [show VLU s A + XWm x A p + R A = VLU s A + 0 + XWm x A p + R A by omega]; exact inv
    refine s_X0_listOne_173 fun _ _ _ _ _ => ⟨fun _ => ⟨by omega, ?_⟩, fun h => by omega⟩
    rw [e21]
    refine ⟨fun h2 => ?_, fun h2 => ?_⟩
    · refine hQ s lf h1 pl (fun A tre => ?_) h0
      have e : XWm x A p = 0 := by unfold XWm; rw [if_neg h2]
      have inv' := inv' A tre
      rw [e, show VLU s A + 0 + R A = VLU s A + R A by omega] at inv'; exact inv'
    · exact e_meant (T := T) (R := R) lf tr0 pl hp h2 (by omega) hR inv' fun s' l' p' i' e0 e1 => hQ s' l' (e1.trans h1) p' i' (e0.trans h0)
  | succ j ih =>
    intro s a1 hj lf pl h0 h1 inv
    have ek : F_X9_kidOf (akT 59) s p (j : Int) = x.1 27 (3 * p + j) := by
      have e181 : s.1 18 1 = x.1 18 1 := (lf.2 18 1 (Or.inl (by decide))).1
      have har := ar_r (x.1 21 p)
      unfold F_X9_kidOf
      rw [show akT 59 = 18 from rfl, e181, if_pos (by omega), if_neg (by omega), if_neg (by omega)]
      exact (lf.2 27 _ (Or.inl (by decide))).1
    have hk := (tr0.2 p hp.1 hp.2).2.2.2.2.1 (j : Int) (by omega) (by omega)
    have hnn : ∀ A, TRE x N A → 0 ≤ KSn x A p j := fun A tre => KSn_nn j fun i i0 i1 => by
      have := (tre.2 p hp.1 hp.2).2.2.2.2.1 i i0 (by omega)
      have := (tre.2 _ this.1 this.2).2.1.1
      omega
    refine s_X0_listOne_173 ?_
    rw [show (((j + 1 : Nat) : Int) - 1) = (j : Int) by omega, ek]
    refine fun _ _ _ _ _ => ⟨fun h => by omega, fun _ => ⟨P_kid _ _ _ _, ?_⟩⟩
    refine e_pile (T := T) (R := fun A => KSn x A p j + XWm x A p + R A) lf pl hk (by omega) (fun A tre => ?_) (fun A tre => ?_) fun s' l' p' i' e0 e1 => ⟨by unfold R32; omega, ?_⟩
    · have h1 := hnn A tre
      have h2 := hX A tre
      have h3 := hR A tre
      show 0 ≤ KSn x A p j + XWm x A p + R A
      omega
    · have e : KSn x A p (j + 1) = KSn x A p j + A (x.1 27 (3 * p + j)) := rfl
      have inv := inv A tre
      rw [e] at inv
      show INVP (T A) (VLU s A + A (x.1 27 (3 * p + j)) + (KSn x A p j + XWm x A p + R A))
      rw [show VLU s A + A (x.1 27 (3 * p + j)) + (KSn x A p j + XWm x A p + R A) = VLU s A + (KSn x A p j + A (x.1 27 (3 * p + j))) + XWm x A p + R A by omega]; exact inv
    · refine ih s' a1 (by omega) l' p' (e0.trans h0) (e1.trans h1) fun A tre => ?_
      have i' := i' A tre
      rw [show VLU s' A + KSn x A p j + XWm x A p + R A = VLU s' A + (KSn x A p j + XWm x A p + R A) by omega]; exact i'
end CNT2
