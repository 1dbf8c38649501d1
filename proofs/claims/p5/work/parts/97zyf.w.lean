/-! READING ALIKE: what a NAME may mean, in the CLASS -/
def CLS (st : Int → Int) (IN : Int → Bool) : Nat → List Int
  | 0 => []
  | i + 1 => (if IN i then [st i] else []) ++ CLS st IN i
def DLS : Nat → List Int
  | 0 => []
  | d + 1 => (40 + (d : Int)) :: DLS d
def ENT (s : ST) (c : Int) : List Int := (List.range c.toNat).map fun (a : Nat) => s.1 50 (a : Int)
def ARR (wd : Int → Int64) (s : ST) (c : Int) (P : List Int) : Prop := ∀ w, (ENT s c).find? (fun a => decide (wd a = w)) = P.find? (fun a => decide (wd a = w))
theorem ENT_succ {s : ST} {c : Int} (h : 0 ≤ c) : ENT s (c + 1) = ENT s c ++ [s.1 50 c] := by
  unfold ENT
  rw [show (c + 1).toNat = c.toNat + 1 by omega, List.range_succ, List.map_append, List.map_singleton, show ((c.toNat : Nat) : Int) = c by omega]
theorem ENT_congr {s s' : ST} {c : Int} (h : ∀ a, 0 ≤ a → a < c → s'.1 50 a = s.1 50 a) : ENT s' c = ENT s c := by
  unfold ENT
  refine List.map_congr_left fun a ha => ?_
  rw [List.mem_range] at ha
  exact h _ (by omega) (by omega)
theorem mem_ENT {s : ST} {c z : Int} : z ∈ ENT s c ↔ ∃ a, (0 ≤ a ∧ a < c) ∧ s.1 50 a = z := by
  unfold ENT
  rw [List.mem_map]
  constructor
  · rintro ⟨a, ha, e⟩
    rw [List.mem_range] at ha
    exact ⟨a, by omega, e⟩
  · rintro ⟨a, ha, e⟩
    refine ⟨a.toNat, List.mem_range.mpr (by omega), ?_⟩
    rw [show ((a.toNat : Nat) : Int) = a by omega]; exact e
section TGT
variable {s x : ST} {p q : Int}
theorem wd_50 {s s' : ST} (h : md [] [50] s s') (z : Int) : F_X9_wordOf 18 s' z = F_X9_wordOf 18 s z := by
  unfold F_X9_wordOf
  rw [h.f 18 0 (by decide) (by decide), h.f 18 1 (by decide) (by decide)]
  simp only [h.cj 28 (by decide) (by decide), h.cj 19 (by decide) (by decide)]
theorem e_addChoice {wd : Int → Int64} {P : List Int} {Q : ST → Int → Prop} (hw : ∀ z, F_X9_wordOf 18 s z = wd z) (hp : 0 ≤ p ∧ p < 48) (ha : ARR wd s p P) (hQ : ∀ s' v, md [] [50] s s' → ARR wd s' v (P ++ [q]) → (0 ≤ v ∧ v ≤ p + 1) → Q s' v) : C_X9_addChoice 18 50 s p q Q := by
  have k45 : (∀ a, 0 ≤ a → a < p → wd (s.1 50 a) ≠ wd q) → K_X9_addChoice_45 18 50 s p q Q := by
    intro hn
    refine s_X9_addChoice_45 ?_
    (repeat' (with_reducible first | refine ⟨?_, ?_⟩ | intro _))
    all_goals first | omega | skip
    refine hQ _ _ (by repeat' (first | exact md.rf | assumption | refine md.ui ?_ ?_ | refine md.uj ?_ ?_ | exact Or.inr (by decide) | exact Or.inl (by decide))) (fun w => ?_) (by omega)
    have e : ENT (ui s 50 p q) (p + 1) = ENT s p ++ [q] := by
      rw [ENT_succ hp.1, ui_same, ENT_congr fun a a0 a1 => ui_ne (by omega)]
    rw [e, List.find?_append, List.find?_append, ha w]
  have k10 : ∀ (n : Nat) (a6 : Int), 48 - a6 ≤ (n : Int) → 0 ≤ a6 → (∀ a, 0 ≤ a → a < a6 → wd (s.1 50 a) ≠ wd q) → K_X9_addChoice_10 18 50 s p q (wd q) a6 Q := by
    intro n
    induction n with
    | zero =>
      intro a6 hn h0 hne
      refine s_X9_addChoice_10 ?_
      (repeat' (with_reducible first | refine ⟨?_, ?_⟩ | intro _))
      all_goals first | omega | exact k45 (fun a a0 a1 => hne a a0 (by omega)) | exact P_word _ _ _
    | succ n ih =>
      intro a6 hn h0 hne
      refine s_X9_addChoice_10 ?_
      rw [hw]
      intro _ _ _ _ _ _
      refine ⟨fun _ => k45 (fun a a0 a1 => hne a a0 (by omega)), fun h6 => ⟨fun _ => k45 (fun a a0 a1 => hne a a0 (by omega)), fun h48 => ⟨by omega, P_word _ _ _, fun e => ⟨by unfold R32; omega, ih (a6 + 1) (by omega) (by omega) fun a a0 a1 => ?_⟩, fun e => ?_⟩⟩⟩
      · by_cases c : a = a6
        · rw [c]; exact e
        · exact hne a a0 (by omega)
      · refine hQ s p md.rf (fun w => ?_) (by omega)
        rw [List.find?_append, ha w]
        by_cases c : wd q = w
        · have : ((ENT s p).find? fun a => decide (wd a = w)).isSome := by
            rw [List.find?_isSome]
            exact ⟨s.1 50 a6, mem_ENT.mpr ⟨a6, by omega, rfl⟩, decide_eq_true (e.trans c)⟩
          rw [ha w] at this
          obtain ⟨z, hz⟩ := Option.isSome_iff_exists.mp this
          rw [hz]; rfl
        · have : ([q].find? fun a => decide (wd a = w)) = none := by
            rw [List.find?_eq_none]
            intro z hz
            rw [List.mem_singleton] at hz
            rw [hz]; simpa using c
          rw [this, Option.or_none]
  refine s_X9_addChoice ?_
  rw [hw]
  intro _ _ _ _ _
  refine ⟨P_word _ _ _, ?_⟩
  exact k10 48 0 (by omega) (by omega) (fun a a0 a1 => by omega)
end TGT
