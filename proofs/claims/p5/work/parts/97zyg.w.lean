/-! READING ALIKE: the choices at a place, exactly -/
def chd (k : Nat) (st : Int → Int) (n i : Int) : Int := if i + 1 = (k : Int) then n else st (i + 1)
def PTH (x : ST) (k : Nat) (st : Int → Int) (n : Int) : Prop := k ≤ 21 ∧ (∀ i : Int, 0 ≤ i → i < k → (0 ≤ st i ∧ st i < x.1 18 1 ∧ st i < 40) ∧ x.1 26 (st i) = if i = 0 then -1 else st (i - 1)) ∧ (x.1 26 n = if k = 0 then -1 else st ((k : Int) - 1)) ∧ (0 ≤ n ∧ n < x.1 18 1 ∧ n < 40)
def INX (x : ST) (k : Nat) (st : Int → Int) (n i : Int) : Bool := decide (x.1 21 (st i) = 3 ∨ (x.1 21 (st i) = 4 ∧ x.1 27 (3 * st i + 1) = chd k st n i))
theorem KX_50 {x x' : ST} (ix : IX x) (m : md [] [50] x x') : KX x x' := by
  have e : ∀ c, c ≠ 50 → ∀ z, x'.1 c z = x.1 c z ∧ x'.2 c z = x.2 c z := fun c hc z => m c z (fun q => by cases q) (fun q => by rw [List.mem_singleton] at q; exact hc q)
  exact ix.cells (fun c hc => funext fun z => (e c (by omega) z).1) (funext fun z => (e 47 (by decide) z).2)
section CHO
variable {x : ST} {k : Nat} {st : Int → Int} {n : Int}
theorem e_choices {Q : ST → Int → Prop} (ph : PTH x k st n) (hu : 0 ≤ x.1 23 n ∧ x.1 23 n ≤ 7) (hQ : ∀ x' c, md [] [50] x x' → ARR (F_X9_wordOf 18 x) x' c (CLS st (INX x k st n) k ++ DLS (x.1 23 n).toNat) → (0 ≤ c ∧ c ≤ 48) → Q x' c) : C_X9_choicesAt 18 50 x n Q := by
  obtain ⟨hk, hst, hn26, hn⟩ := id ph
  have k118 : ∀ (d : Nat) (s1 : ST) (a3 : Int) (P : List Int), (d : Int) ≤ 7 → md [] [50] x s1 → ARR (F_X9_wordOf 18 x) s1 a3 P → (0 ≤ a3 ∧ a3 + d ≤ 40) → P ++ DLS d = CLS st (INX x k st n) k ++ DLS (x.1 23 n).toNat → K_X9_choicesAt_118 18 50 s1 a3 ((d : Int) - 1) Q := by
    intro d
    induction d with
    | zero =>
      intro s1 a3 P hd m1 ha h3 hP
      refine s_X9_choicesAt_118 ?_
      (repeat' (with_reducible first | refine ⟨?_, ?_⟩ | intro _))
      all_goals first | omega | skip
      refine hQ s1 a3 m1 ?_ (by omega)
      rw [← hP]; unfold DLS; rw [List.append_nil]; exact ha
    | succ d ih =>
      intro s1 a3 P hd m1 ha h3 hP
      refine s_X9_choicesAt_118 ?_
      intro _ _ _ _ _
      refine ⟨fun h => by omega, fun _ => ?_⟩
      rw [show (((d + 1 : Nat) : Int) - 1) = (d : Int) by omega, show w32 (40 + (d : Int)) = 40 + (d : Int) from w32_id (by unfold R32; omega)]
      refine e_addChoice (wd := F_X9_wordOf 18 x) (P := P) (fun z => wd_50 m1 z) (by omega) ha fun s2 v m2 a2 h2 => ⟨by unfold R32; omega, ?_⟩
      refine ih s2 v (P ++ [40 + (d : Int)]) (by omega) (m1.tr m2) a2 (by omega) ?_
      rw [← hP, List.append_assoc]; rfl
  have k26 : ∀ (j : Nat) (s1 : ST) (a3 : Int) (P : List Int), j ≤ k → md [] [50] x s1 → ARR (F_X9_wordOf 18 x) s1 a3 P → (0 ≤ a3 ∧ a3 ≤ (k : Int) - j) → P ++ CLS st (INX x k st n) j = CLS st (INX x k st n) k → K_X9_choicesAt_26 18 50 s1 n a3 (if j = k then n else st j) (if j = 0 then -1 else st ((j : Int) - 1)) ((k : Int) - j) Q := by
    intro j
    induction j with
    | zero =>
      intro s1 a3 P hj m1 ha h3 hP
      have k108 : K_X9_choicesAt_108 18 50 s1 n a3 Q := by
        refine s_X9_choicesAt_108 ?_
        rw [show s1.1 (18 + 5) n = x.1 23 n from m1.c 23 (by decide) (by decide) n, show w32 (x.1 23 n - 1) = ((x.1 23 n).toNat : Int) - 1 from (w32_id (by unfold R32; omega)).trans (by omega)]
        intro _ _ _ _ _
        refine ⟨by omega, k118 (x.1 23 n).toNat s1 a3 P (by omega) m1 ha (by omega) ?_⟩
        rw [← hP]; unfold CLS; rw [List.append_nil]
      rw [if_pos rfl]
      refine s_X9_choicesAt_26 ?_
      (repeat' (with_reducible first | refine ⟨?_, ?_⟩ | intro _))
      all_goals first | omega | exact k108
    | succ j ih =>
      intro s1 a3 P hj m1 ha h3 hP
      obtain ⟨hsj, hpj⟩ := hst (j : Int) (by omega) (by omega)
      have e181 : s1.1 18 1 = x.1 18 1 := m1.f 18 1 (by decide) (by decide)
      have e21 : s1.1 (18 + 3) (st j) = x.1 21 (st j) := m1.c 21 (by decide) (by decide) _
      have e26 : s1.1 (18 + 8) (st j) = x.1 26 (st j) := m1.c 26 (by decide) (by decide) _
      have e27 : s1.1 (18 + 9) (3 * st j + 1) = x.1 27 (3 * st j + 1) := m1.c 27 (by decide) (by decide) _
      have hch : (if j + 1 = k then n else st ((j + 1 : Nat) : Int)) = chd k st n j := by
        unfold chd
        by_cases c : j + 1 = k
        · rw [if_pos c, if_pos (by omega)]
        · rw [if_neg c, if_neg (by omega)]; congr 1
      rw [hch, if_neg (by omega), show (((j + 1 : Nat) : Int) - 1) = (j : Int) by omega]
      have k89 : ∀ (s2 : ST) (c : Int) (P2 : List Int), md [] [50] x s2 → ARR (F_X9_wordOf 18 x) s2 c P2 → (0 ≤ c ∧ c ≤ (k : Int) - j) → P2 ++ CLS st (INX x k st n) j = CLS st (INX x k st n) k → K_X9_choicesAt_89 18 50 s2 n c (st j) ((k : Int) - (j + 1 : Nat)) Q := by
        intro s2 c P2 m2 ha2 hc hP2
        have e26' : s2.1 (18 + 8) (st j) = if (j : Int) = 0 then -1 else st ((j : Int) - 1) := (m2.c 26 (by decide) (by decide) _).trans hpj
        refine s_X9_choicesAt_89 ?_
        rw [e26']
        intro _ _ _ _ _ _ _
        refine ⟨by omega, by unfold R32; omega, ?_⟩
        have := ih s2 c P2 (by omega) m2 ha2 hc hP2
        rw [if_neg (by omega)] at this
        rw [show (k : Int) - ((j + 1 : Nat) : Int) + 1 = (k : Int) - j by omega]
        by_cases c0 : j = 0
        · subst c0; exact this
        · rw [if_neg c0] at this; rw [if_neg (by omega)]; exact this
      have k80 : INX x k st n j = true → K_X9_choicesAt_80 18 50 s1 n a3 (st j) ((k : Int) - (j + 1 : Nat)) Q := by
        intro hin
        refine s_X9_choicesAt_80 ?_
        intros
        refine e_addChoice (wd := F_X9_wordOf 18 x) (P := P) (fun z => wd_50 m1 z) (by omega) ha fun s2 v m2 a2 h2 => k89 s2 v (P ++ [st j]) (m1.tr m2) a2 (by omega) ?_
        rw [← hP, List.append_assoc]
        show P ++ ([st j] ++ CLS st (INX x k st n) j) = P ++ ((if INX x k st n j then [st j] else []) ++ CLS st (INX x k st n) j)
        rw [hin]; rfl
      have k89' : INX x k st n j = false → K_X9_choicesAt_89 18 50 s1 n a3 (st j) ((k : Int) - (j + 1 : Nat)) Q := by
        intro hin
        refine k89 s1 a3 P m1 ha (by omega) ?_
        rw [← hP]
        show P ++ CLS st (INX x k st n) j = P ++ ((if INX x k st n j then [st j] else []) ++ CLS st (INX x k st n) j)
        rw [hin]; rfl
      refine s_X9_choicesAt_26 ?_
      rw [e21, e27, e181]
      (repeat' (with_reducible first | refine ⟨?_, ?_⟩ | intro _))
      all_goals first | omega | skip
      · exact k80 (decide_eq_true (Or.inl (by assumption)))
      · refine k89' (decide_eq_false fun h => ?_); rcases h with h | h <;> omega
      · refine k89' (decide_eq_false fun h => ?_); rcases h with h | h <;> omega
      · exact k80 (decide_eq_true (Or.inr ⟨by omega, by omega⟩))
  refine s_X9_choicesAt ?_
  (repeat' (with_reducible first | refine ⟨?_, ?_⟩ | intro _))
  all_goals first | omega | skip
  have := k26 k x 0 [] (Nat.le_refl _) md.rf (fun w => rfl) (by omega) rfl
  rw [if_pos rfl, show (k : Int) - (k : Int) = 0 by omega, ← hn26] at this
  exact this
end CHO
