/-! READING ALIKE: what a NAME means, side by side -/
theorem find_ENT {s : ST} {p : Int → Bool} : ∀ (c : Nat) (j : Int), 0 ≤ j → j < c → (∀ a, 0 ≤ a → a < j → p (s.1 50 a) = false) → p (s.1 50 j) = true → (ENT s c).find? p = some (s.1 50 j) := by
  intro c
  induction c with
  | zero => intro j h0 h1; omega
  | succ c ih =>
    intro j h0 h1 hn hp
    rw [show (((c + 1 : Nat) : Int)) = (c : Int) + 1 by omega, ENT_succ (by omega), List.find?_append]
    by_cases e : j = c
    · have : (ENT s c).find? p = none := by
        rw [List.find?_eq_none]
        intro z hz
        obtain ⟨a, ha, rfl⟩ := mem_ENT.mp hz
        rw [hn a ha.1 (by omega)]; decide
      rw [this, e, Option.none_or, List.find?_singleton, ← e, hp]; rfl
    · rw [ih j h0 (by omega) hn hp]; rfl
section TGT2
variable {x : ST} {k : Nat} {st : Int → Int} {n : Int}
theorem e_findTarget {Q : ST → Int → Prop} (ph : PTH x k st n) (hu : 0 ≤ x.1 23 n ∧ x.1 23 n ≤ 7)
    (hQ0 : (CLS st (INX x k st n) k ++ DLS (x.1 23 n).toNat).find? (fun a => decide (F_X9_wordOf 18 x a = x.2 46 7)) = none → ∀ x', md [] [50] x x' → Q x' 0)
    (hQ1 : ∀ t, (CLS st (INX x k st n) k ++ DLS (x.1 23 n).toNat).find? (fun a => decide (F_X9_wordOf 18 x a = x.2 46 7)) = some t → ∀ x1, md [] [50] x x1 → Q (ui x1 29 n t) 1) : C_X7_findTarget x n Q := by
  have hn := ph.2.2.2
  have k28 : ∀ (j : Nat) (x1 : ST) (c a3 : Int), c - a3 ≤ (j : Int) → 0 ≤ a3 → md [] [50] x x1 → ARR (F_X9_wordOf 18 x) x1 c (CLS st (INX x k st n) k ++ DLS (x.1 23 n).toNat) → (0 ≤ c ∧ c ≤ 48) → (∀ a, 0 ≤ a → a < a3 → F_X9_wordOf 18 x (x1.1 50 a) ≠ x.2 46 7) → K_X7_findTarget_28 x1 n c a3 Q := by
    intro j
    induction j with
    | zero =>
      intro x1 c a3 hj h0 m1 ha hc hne
      have : (ENT x1 c).find? (fun a => decide (F_X9_wordOf 18 x a = x.2 46 7)) = none := by
        rw [List.find?_eq_none]
        intro z hz
        obtain ⟨a, ha, rfl⟩ := mem_ENT.mp hz
        simpa using hne a ha.1 (by omega)
      rw [ha] at this
      refine s_X7_findTarget_28 ?_
      (repeat' (with_reducible first | refine ⟨?_, ?_⟩ | intro _))
      all_goals first | omega | exact P_word _ _ _ | exact hQ0 this x1 m1
    | succ j ih =>
      intro x1 c a3 hj h0 m1 ha hc hne
      have e46 : x1.2 46 7 = x.2 46 7 := m1.fj 46 7 (by decide) (by decide)
      refine s_X7_findTarget_28 ?_
      rw [wd_50 m1, e46]
      intro _ _ _ _
      refine ⟨fun h => ?_, fun hlt => ⟨fun h => by omega, fun h48 => ⟨by omega, P_word _ _ _, fun e => ⟨by unfold R32; omega, ih x1 c (a3 + 1) (by omega) (by omega) m1 ha hc fun a a0 a1 => ?_⟩, fun e => ⟨by omega, ?_⟩⟩⟩⟩
      · refine hQ0 ?_ x1 m1
        rw [← ha, List.find?_eq_none]
        intro z hz
        obtain ⟨a, ha, rfl⟩ := mem_ENT.mp hz
        simpa using hne a ha.1 (by omega)
      · by_cases cc : a = a3
        · rw [cc]; exact e
        · exact hne a a0 (by omega)
      · refine hQ1 _ ?_ x1 m1
        rw [← ha, show c = ((c.toNat : Nat) : Int) by omega]
        exact find_ENT c.toNat a3 h0 (by omega) (fun a a0 a1 => decide_eq_false (hne a a0 a1)) (decide_eq_true e)
  refine s_X7_findTarget ?_
  (repeat' (with_reducible first | refine ⟨?_, ?_⟩ | intro _))
  all_goals first | omega | skip
  exact e_choices ph hu fun x1 c m1 a1 hc => k28 48 x1 c 0 (by omega) (by omega) m1 a1 hc (fun a a0 a1 => by omega)
def wdm (m : ST) (b a : Int) : Int64 := if a < 40 then m.2 158 (40 * b + a) else m.2 157 (8 * b + (a - 40))
def INM (m : ST) (b i : Int) : Bool := decide (m.1 146 (40 * b + m.1 159 i) = 3 ∨ (m.1 146 (40 * b + m.1 159 i) = 4 ∧ m.1 160 i = 1))
theorem e_X11_meant {m : ST} {b : Int} {k nD : Nat} {Q : ST → Int → Prop} (hk : k ≤ 21) (hD : nD ≤ 7) (hop : ∀ i : Int, 0 ≤ i → i < k → 0 ≤ m.1 159 i ∧ m.1 159 i < 40) (hb : 0 ≤ b ∧ b ≤ 1) (h29 : m.1 139 29 = b) (h32 : m.1 139 32 = k) (h43 : m.1 143 b = nD)
    (hQ0 : (CLS (fun i => m.1 159 i) (INM m b) k ++ DLS nD).find? (fun a => decide (wdm m b a = m.2 139 10)) = none → Q m (-1))
    (hQ1 : ∀ t, (CLS (fun i => m.1 159 i) (INM m b) k ++ DLS nD).find? (fun a => decide (wdm m b a = m.2 139 10)) = some t → Q m (if t < 40 then t else t + 60)) : C_X11_meant m Q := by
  have k95 : ∀ d : Nat, d ≤ nD → (CLS (fun i => m.1 159 i) (INM m b) k ++ DLS nD).find? (fun a => decide (wdm m b a = m.2 139 10)) = (DLS d).find? (fun a => decide (wdm m b a = m.2 139 10)) → K_X11_meant_95 m ((d : Int) - 1) Q := by
    intro d
    induction d with
    | zero =>
      intro _ hf
      refine s_X11_meant_95 ?_
      (repeat' (with_reducible first | refine ⟨?_, ?_⟩ | intro _))
      all_goals first | omega | exact hQ0 hf
    | succ d ih =>
      intro hd hf
      have ew : wdm m b (40 + (d : Int)) = m.2 157 (8 * b + d) := by unfold wdm; rw [if_neg (by omega), show 40 + (d : Int) - 40 = d by omega]
      refine s_X11_meant_95 ?_
      rw [h29, show (((d + 1 : Nat) : Int) - 1) = (d : Int) by omega]
      (repeat' (with_reducible first | refine ⟨?_, ?_⟩ | intro _))
      all_goals first | omega | skip
      · refine ih (by omega) (hf.trans ?_)
        show List.find? _ ((40 + (d : Int)) :: DLS d) = _
        rw [List.find?_cons_of_neg]
        rw [ew]; simpa using (by assumption : ¬ m.2 157 (8 * b + (d : Int)) = m.2 139 10)
      · have := hQ1 (40 + (d : Int)) (hf.trans ?_)
        · rw [if_neg (by omega), show 40 + (d : Int) + 60 = 100 + d by omega] at this; exact this
        · unfold DLS
          rw [List.find?_cons_of_pos]
          rw [ew]; exact decide_eq_true (by assumption)
  have k7 : ∀ i : Nat, i ≤ k → (CLS (fun i => m.1 159 i) (INM m b) k ++ DLS nD).find? (fun a => decide (wdm m b a = m.2 139 10)) = (CLS (fun i => m.1 159 i) (INM m b) i ++ DLS nD).find? (fun a => decide (wdm m b a = m.2 139 10)) → K_X11_meant_7 m ((i : Int) - 1) Q := by
    intro i
    induction i with
    | zero =>
      intro _ hf
      refine s_X11_meant_7 ?_
      rw [h29, h43]
      (repeat' (with_reducible first | refine ⟨?_, ?_⟩ | intro _))
      all_goals first | omega | exact k95 nD (Nat.le_refl _) hf
    | succ i ih =>
      intro hi hf
      have ho := hop (i : Int) (by omega) (by omega)
      have ew : wdm m b (m.1 159 i) = m.2 158 (40 * b + m.1 159 i) := by unfold wdm; rw [if_pos ho.2]
      have skp : ¬ (INM m b i = true ∧ m.2 158 (40 * b + m.1 159 i) = m.2 139 10) → K_X11_meant_7 m ((i : Int) - 1) Q := by
        intro hno
        refine ih (by omega) (hf.trans ?_)
        show ((if INM m b i then [m.1 159 i] else []) ++ CLS (fun i => m.1 159 i) (INM m b) i ++ DLS nD).find? _ = _
        by_cases c : INM m b i = true
        · rw [c, if_pos rfl, List.append_assoc, List.singleton_append, List.find?_cons_of_neg]
          rw [ew]; simpa using fun e => hno ⟨c, e⟩
        · rw [if_neg c]; rfl
      have hit : INM m b i = true → m.2 158 (40 * b + m.1 159 i) = m.2 139 10 → K_X11_meant_70 m i Q := by
        intro c e
        refine s_X11_meant_70 fun _ _ => ⟨by omega, ?_⟩
        have := hQ1 (m.1 159 i) (hf.trans ?_)
        · rw [if_pos ho.2] at this; exact this
        · show ((if INM m b i then [m.1 159 i] else []) ++ CLS (fun i => m.1 159 i) (INM m b) i ++ DLS nD).find? _ = _
          rw [c, if_pos rfl, List.append_assoc, List.singleton_append, List.find?_cons_of_pos]
          rw [ew]; exact decide_eq_true e
      refine s_X11_meant_7 ?_
      rw [h29, show (((i + 1 : Nat) : Int) - 1) = (i : Int) by omega]
      (repeat' (with_reducible first | refine ⟨?_, ?_⟩ | intro _))
      all_goals first | omega | skip
      · exact skp (fun h => absurd h.2 (by assumption))
      · exact hit (decide_eq_true (Or.inl (by assumption))) (by assumption)
      · exact skp (fun h => by have := of_decide_eq_true h.1; omega)
      · exact skp (fun h => by have := of_decide_eq_true h.1; omega)
      · exact hit (decide_eq_true (Or.inr ⟨by omega, by omega⟩)) (by assumption)
  refine s_X11_meant ?_
  rw [h32]
  (repeat' (with_reducible first | refine ⟨?_, ?_⟩ | intro _))
  all_goals first | omega | exact k7 k (Nat.le_refl _) rfl
end TGT2
