/-! READING ALIKE: the ASKINGS counted -/
def KSn (x : ST) (A : Int → Int) (p : Int) : Nat → Int
  | 0 => 0
  | j + 1 => KSn x A p j + A (x.1 27 (3 * p + (j : Int)))
def MBx (x : ST) (p : Int) : Int := F_X9_meantBy 18 x p
def XWm (x : ST) (A : Int → Int) (p : Int) : Int := if x.1 21 p = 2 then (if MBx x p = -1 then 0 else A (MBx x p)) else 0
def TRE (x : ST) (N : Int) (A : Int → Int) : Prop := (x.1 18 1 = N ∧ (0 ≤ N ∧ N ≤ 40)) ∧ ∀ p, 0 ≤ p → p < N → (0 ≤ x.1 21 p ∧ x.1 21 p ≤ 16) ∧ (1 ≤ A p ∧ A p ≤ 1000000) ∧ (A p < 1000000 → A p = 1 + KSn x A p (ar (x.1 21 p)).toNat + XWm x A p) ∧ (A p = 1000000 → 1000000 ≤ 1 + KSn x A p (ar (x.1 21 p)).toNat + XWm x A p) ∧ (∀ j, 0 ≤ j → j < ar (x.1 21 p) → 0 ≤ x.1 27 (3 * p + j) ∧ x.1 27 (3 * p + j) < N) ∧ (x.1 21 p = 2 → MBx x p = -1 ∨ (0 ≤ MBx x p ∧ MBx x p < N))
def PWs (A f : Int → Int) : Nat → Int
  | 0 => 0
  | i + 1 => PWs A f i + A (f (i : Int))
def VLU (s : ST) (A : Int → Int) : Int := s.1 59 0 + PWs A (s.1 64) (s.1 59 15).toNat
def PIL (s : ST) (N : Int) : Prop := (0 ≤ s.1 59 15 ∧ s.1 59 15 ≤ 403) ∧ ∀ i, 0 ≤ i → i < s.1 59 15 → 0 ≤ s.1 64 i ∧ s.1 64 i < N
def INVP (T v : Int) : Prop := (T ≤ 400 ∧ v = T) ∨ (401 ≤ T ∧ 401 ≤ v)
theorem PWs_congr {A f f' : Int → Int} : ∀ n : Nat, (∀ i : Int, 0 ≤ i → i < n → f' i = f i) → PWs A f' n = PWs A f n := by
  intro n
  induction n with
  | zero => intro _; rfl
  | succ n ih =>
    intro h
    show PWs A f' n + A (f' n) = PWs A f n + A (f n)
    rw [ih fun i i0 i1 => h i i0 (by omega), h n (by omega) (by omega)]
theorem PWs_ge {A f : Int → Int} : ∀ n : Nat, (∀ i : Int, 0 ≤ i → i < n → 1 ≤ A (f i)) → (n : Int) ≤ PWs A f n := by
  intro n
  induction n with
  | zero => intro _; exact Int.le_refl _
  | succ n ih =>
    intro h
    have := ih fun i i0 i1 => h i i0 (by omega)
    have h2 := h n (by omega) (by omega)
    show ((n + 1 : Nat) : Int) ≤ PWs A f n + A (f n)
    omega
theorem KSn_nn {x : ST} {A : Int → Int} {p : Int} : ∀ j : Nat, (∀ i : Int, 0 ≤ i → i < j → 0 ≤ A (x.1 27 (3 * p + i))) → 0 ≤ KSn x A p j := by
  intro j
  induction j with
  | zero => intro _; exact Int.le_refl _
  | succ j ih =>
    intro h
    have := ih fun i i0 i1 => h i i0 (by omega)
    have h2 := h j (by omega) (by omega)
    show 0 ≤ KSn x A p j + A (x.1 27 (3 * p + (j : Int)))
    omega
section CNT
variable {x s : ST} {N : Int} {T : (Int → Int) → Int}
theorem e_pile {p q u : Int} {R : (Int → Int) → Int} {Q : ST → Prop} (lf : LF 59 x s) (pl : PIL s N) (hp : 0 ≤ p ∧ p < N) (h0 : 0 ≤ s.1 59 0) (hR : ∀ A, TRE x N A → 0 ≤ R A) (inv : ∀ A, TRE x N A → INVP (T A) (VLU s A + A p + R A)) (hQ : ∀ s', LF 59 x s' → PIL s' N → (∀ A, TRE x N A → INVP (T A) (VLU s' A + R A)) → s'.1 59 0 = s.1 59 0 → s'.1 59 1 = s.1 59 1 → Q s') : C_X0_pileUp 59 s p q u Q := by
  obtain ⟨pl1, pl2⟩ := id pl
  refine s_X0_pileUp ?_
  simp (disch := omega) only [ui_cell]
  (repeat' (with_reducible first | refine ⟨?_, ?_⟩ | intro _))
  all_goals first | omega | skip
  · refine hQ s lf pl (fun A tre => ?_) rfl rfl
    have hA : ∀ i, 0 ≤ i → i < s.1 59 15 → 1 ≤ A (s.1 64 i) := fun i i0 i1 => by
      have := pl2 i i0 i1
      exact (tre.2 _ this.1 this.2).2.1.1
    have hAp := (tre.2 p hp.1 hp.2).2.1.1
    have hge := PWs_ge (A := A) (f := s.1 64) (s.1 59 15).toNat (fun i i0 i1 => hA i i0 (by omega))
    have inv := inv A tre
    have hR := hR A tre
    unfold INVP VLU at *
    omega
  · have l2 : LF 59 x (ui (ui (ui (ui s (59 + 5) (s.1 59 15) p) (59 + 6) (s.1 59 15) q) (59 + 7) (s.1 59 15) u) 59 15 (s.1 59 15 + 1)) := LF_put (Or.inr rfl) (LF_put (Or.inr rfl) (LF_put (Or.inr rfl) (LF_put (Or.inr rfl) lf (by omega) (fun e => by omega) (fun e => by omega)) (by omega) (fun e => by omega) (fun e => by omega)) (by omega) (fun e => by omega) (fun e => by omega)) (by omega) (fun _ e => by omega) (fun e => by omega)
    have e15 : (ui (ui (ui (ui s (59 + 5) (s.1 59 15) p) (59 + 6) (s.1 59 15) q) (59 + 7) (s.1 59 15) u) 59 15 (s.1 59 15 + 1)).1 59 15 = s.1 59 15 + 1 := ui_same
    have e0 : (ui (ui (ui (ui s (59 + 5) (s.1 59 15) p) (59 + 6) (s.1 59 15) q) (59 + 7) (s.1 59 15) u) 59 15 (s.1 59 15 + 1)).1 59 0 = s.1 59 0 := by simp (disch := omega) only [ui_cell, ui_ne]
    have e1 : (ui (ui (ui (ui s (59 + 5) (s.1 59 15) p) (59 + 6) (s.1 59 15) q) (59 + 7) (s.1 59 15) u) 59 15 (s.1 59 15 + 1)).1 59 1 = s.1 59 1 := by simp (disch := omega) only [ui_cell, ui_ne]
    have e64 : ∀ z, z ≠ s.1 59 15 → (ui (ui (ui (ui s (59 + 5) (s.1 59 15) p) (59 + 6) (s.1 59 15) q) (59 + 7) (s.1 59 15) u) 59 15 (s.1 59 15 + 1)).1 64 z = s.1 64 z := fun z hz => by simp (disch := omega) only [ui_cell, ui_ne]
    have e64n : (ui (ui (ui (ui s (59 + 5) (s.1 59 15) p) (59 + 6) (s.1 59 15) q) (59 + 7) (s.1 59 15) u) 59 15 (s.1 59 15 + 1)).1 64 (s.1 59 15) = p := by
      rw [ui_cell (by decide), ui_cell (by decide), ui_cell (by decide)]; exact ui_same
    generalize ui (ui (ui (ui s (59 + 5) (s.1 59 15) p) (59 + 6) (s.1 59 15) q) (59 + 7) (s.1 59 15) u) 59 15 (s.1 59 15 + 1) = s2 at *
    refine hQ s2 l2 ⟨by omega, fun i i0 i1 => ?_⟩ (fun A tre => ?_) e0 e1
    · by_cases c : i = s.1 59 15
      · rw [c, e64n]; exact hp
      · rw [e64 i c]; exact pl2 i i0 (by omega)
    · have : VLU s2 A = VLU s A + A p := by
        unfold VLU
        rw [e0, e15, show (s.1 59 15 + 1).toNat = (s.1 59 15).toNat + 1 by omega]
        show s.1 59 0 + (PWs A (s2.1 64) (s.1 59 15).toNat + A (s2.1 64 (((s.1 59 15).toNat : Nat) : Int))) = _
        rw [PWs_congr (f := s.1 64) _ fun i i0 i1 => e64 i (by omega), show (((s.1 59 15).toNat : Nat) : Int) = s.1 59 15 by omega, e64n]
        omega
      rw [this]; exact inv A tre
theorem mb_LF (lf : LF 59 x s) (p : Int) : F_X9_meantBy 18 s p = MBx x p := by
  have e : ∀ c, c < 59 → ∀ z, s.1 c z = x.1 c z := fun c hc z => (lf.2 c z (Or.inl hc)).1
  unfold MBx F_X9_meantBy F_X9_targetOf F_X9_sortOf F_X9_kidOf F_X9_rootOf
  simp only [e 18 (by decide), e (18 + 11) (by decide), e (18 + 3) (by decide), e (18 + 9) (by decide), e (18 + 2) (by decide)]
end CNT
