/-! READING ALIKE: a NAME means the same -/
section ALM
variable {x m : ST} {b n : Int} {k nD : Nat} {st : Int → Int}
theorem meant_alike (hD : nD ≤ 7) (h23 : x.1 23 n = nD) (h180 : x.1 18 0 = (nD : Int) + 1) (h181 : x.1 18 1 = n + 1) (hn : n < 40)
    (hst : ∀ i : Int, 0 ≤ i → i < k → (0 ≤ st i ∧ st i < n) ∧ m.1 159 i = st i ∧ x.1 21 (st i) = m.1 146 (40 * b + st i) ∧ ((x.1 21 (st i) = 3 ∨ x.1 21 (st i) = 4) → WR (x.2 28 (st i)) (m.2 158 (40 * b + st i))) ∧ (x.1 21 (st i) = 4 → (x.1 27 (3 * st i + 1) = chd k st n i ↔ m.1 160 i = 1)))
    (hdf : ∀ d : Int, 0 ≤ d → d < nD → WR (x.2 19 d) (m.2 157 (8 * b + d))) (hw : WR (x.2 46 7) (m.2 139 10)) :
    (CLS st (INX x k st n) k ++ DLS (x.1 23 n).toNat).find? (fun a => decide (F_X9_wordOf 18 x a = x.2 46 7)) = FND m b k nD := by
  unfold FND
  rw [h23, show ((nD : Int)).toNat = nD by omega]
  have e : CLS (fun i => m.1 159 i) (INM m b) k = CLS st (INX x k st n) k := CLS_congr k fun i i0 i1 => by
    obtain ⟨a1, a2, a3, a4, a5⟩ := hst i i0 i1
    refine ⟨a2, ?_⟩
    unfold INM INX
    rw [a2, ← a3]
    refine decide_eq_decide.mpr ?_
    constructor
    · rintro (h | ⟨h, h'⟩)
      · exact Or.inl h
      · exact Or.inr ⟨h, (a5 h).mpr h'⟩
    · rintro (h | ⟨h, h'⟩)
      · exact Or.inl h
      · exact Or.inr ⟨h, (a5 h).mp h'⟩
  rw [e]
  refine find_congr _ fun a ha => ?_
  rw [List.mem_append] at ha
  refine decide_eq_decide.mpr ?_
  rcases ha with ha | ha
  · obtain ⟨i, hi, hin, rfl⟩ := mem_CLS k ha
    obtain ⟨a1, a2, a3, a4, a5⟩ := hst i hi.1 hi.2
    have hs : x.1 21 (st i) = 3 ∨ x.1 21 (st i) = 4 := by
      have := of_decide_eq_true hin
      rcases this with h | ⟨h, _⟩
      · exact Or.inl h
      · exact Or.inr h
    have ew : F_X9_wordOf 18 x (st i) = x.2 28 (st i) := by
      unfold F_X9_wordOf
      rw [w32_id (show R32 (st i - 40) by unfold R32; omega), if_pos (by omega), if_neg (by omega), if_neg (by omega), if_neg (by omega)]
    have em : wdm m b (st i) = m.2 158 (40 * b + st i) := by unfold wdm; rw [if_pos (by omega)]
    rw [ew, em]
    exact (a4 hs).eq hw
  · have hd := mem_DLS nD ha
    have ew : F_X9_wordOf 18 x a = x.2 19 (a - 40) := by
      unfold F_X9_wordOf
      rw [w32_id (show R32 (a - 40) by unfold R32; omega), if_neg (by omega), if_neg (by omega), if_neg (by omega)]
    have em : wdm m b a = m.2 157 (8 * b + (a - 40)) := by unfold wdm; rw [if_neg (by omega)]
    rw [ew, em]
    exact (hdf (a - 40) (by omega) (by omega)).eq hw
end ALM
