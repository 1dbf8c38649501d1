/-! BOTH SIDES: the class's cells are those below 139, the reference's those from there on. -/
def jn (x m : ST) : ST := (fun a b => if 139 ≤ a then m.1 a b else x.1 a b, fun a b => if 139 ≤ a then m.2 a b else x.2 a b)
/-- the same in the cells that are seen -/
def sameS (s s' : q_S) : Prop := s.2.2.2 = s'.2.2.2 ∧ ∀ (i : Nat) (t : Nat × Nat), s.2.2.2[i]? = some t → t.1 ≠ 50 → (∀ b, s'.1 i b = s.1 i b) ∧ (∀ b, s'.2.1 i b = s.2.1 i b) ∧ ∀ b, s'.2.2.1 i b = s.2.2.1 i b
theorem sameS.W {ε : q_E} {s s' : q_S} {H : Heap} (h : sameS s s') (hW : q_W ε s H) : q_W ε s' H := by
  refine ⟨by rw [← h.1]; exact hW.1, by rw [← h.1]; exact hW.2.1, fun i t hi hn => ?_⟩
  rw [← h.1] at hi
  obtain ⟨h1, h2, h3⟩ := h.2 i t hi hn
  rw [q_cell_eq h1 h2 h3]
  exact hW.2.2 i t hi hn
theorem sameS.sy {s s' : q_S} (h : sameS s s') : sameS s' s := by
  refine ⟨h.1.symm, fun i t hi hn => ?_⟩
  rw [← h.1] at hi
  obtain ⟨h1, h2, h3⟩ := h.2 i t hi hn
  exact ⟨fun b => (h1 b).symm, fun b => (h2 b).symm, fun b => (h3 b).symm⟩
theorem sameS.AL {ε : q_E} {s s' : q_S} (h : sameS s s') : q_AL ε s' = q_AL ε s := by
  unfold q_AL
  rw [h.1]
theorem sameS.sees {ε : q_E} {s s' : q_S} {A : Nat → Prop} (h : sameS s s') (k : q_sees ε s A) : q_sees ε s' A := by
  unfold q_sees at *
  rw [← h.1]
  exact k
theorem q_met.sim {M : q_M} {σ σ' : q_S} {args : List Value} {Q Q' : q_P} (hs : sameS σ σ') (h : q_met M σ args Q) (hq : ∀ s r, Q s r → ∃ s', sameS s s' ∧ Q' s' r) : q_met M σ' args Q' := by
  intro l ε
  rw [hs.AL]
  refine Jvm.Free.MetFree.mono (h l ε) ?_ (fun _ _ _ _ _ h => h) ?_
  · rintro a U ⟨ha, hW, hA⟩
    exact ⟨ha, hs.sy.W hW, hA⟩
  · rintro a st o t _ ⟨⟨⟨s1, r, ho, hQ, hW, hse⟩, hsz, hk⟩, L, hF, hL⟩
    obtain ⟨s2, h2, hQ2⟩ := hq s1 r hQ
    exact ⟨⟨⟨s2, r, ho, hQ2, h2.W hW, h2.sees hse⟩, hsz, hk⟩, L, hF, hL⟩
theorem layX_ck : ((List.range 204).all fun i => match layX[i]?, q_lay0[i]? with | some t, some u => (decide (139 ≤ i) && t.1 == 50) || (decide (i < 139) && (t == u && t.1 != 50)) | _, _ => false) = true := by decide +kernel
theorem layM_ck : ((List.range 204).all fun i => match layM[i]?, q_lay0[i]? with | some t, some u => (decide (i < 139) && t.1 == 50) || (decide (139 ≤ i) && (t == u && t.1 != 50)) | _, _ => false) = true := by decide +kernel
theorem lay_len : q_lay0.length = 204 ∧ layX.length = 204 ∧ layM.length = 204 := by decide +kernel
theorem layX_at {i : Nat} (h : i < 204) : ∃ t u, layX[i]? = some t ∧ q_lay0[i]? = some u ∧ ((139 ≤ i ∧ t.1 = 50) ∨ (i < 139 ∧ t = u ∧ t.1 ≠ 50)) := by
  have := List.all_eq_true.mp layX_ck i (List.mem_range.mpr h)
  cases h1 : layX[i]? with
  | none => rw [h1] at this; cases this
  | some t =>
    cases h2 : q_lay0[i]? with
    | none => rw [h1, h2] at this; cases this
    | some u =>
      rw [h1, h2] at this
      refine ⟨t, u, rfl, rfl, ?_⟩
      simp only [Bool.or_eq_true, Bool.and_eq_true, decide_eq_true_eq, beq_iff_eq, bne_iff_ne] at this
      exact this
theorem layM_at {i : Nat} (h : i < 204) : ∃ t u, layM[i]? = some t ∧ q_lay0[i]? = some u ∧ ((i < 139 ∧ t.1 = 50) ∨ (139 ≤ i ∧ t = u ∧ t.1 ≠ 50)) := by
  have := List.all_eq_true.mp layM_ck i (List.mem_range.mpr h)
  cases h1 : layM[i]? with
  | none => rw [h1] at this; cases this
  | some t =>
    cases h2 : q_lay0[i]? with
    | none => rw [h1, h2] at this; cases this
    | some u =>
      rw [h1, h2] at this
      refine ⟨t, u, rfl, rfl, ?_⟩
      simp only [Bool.or_eq_true, Bool.and_eq_true, decide_eq_true_eq, beq_iff_eq, bne_iff_ne] at this
      exact this
theorem lt_of_some {la : List (Nat × Nat)} {i : Nat} {t : Nat × Nat} (hl : la.length = 204) (h : la[i]? = some t) : i < 204 := by
  have := (List.getElem?_eq_some_iff.mp h).1
  omega
theorem hidesX : q_hides layX q_lay0 := by
  refine ⟨by rw [lay_len.1, lay_len.2.1], fun i t u ht hu hn => ?_⟩
  obtain ⟨t', u', h1, h2, h3⟩ := layX_at (lt_of_some lay_len.2.1 ht)
  rw [ht] at h1; rw [hu] at h2
  cases h1; cases h2
  rcases h3 with h3 | h3
  · exact absurd h3.2 hn
  · exact h3.2.1.symm
theorem hidesM : q_hides layM q_lay0 := by
  refine ⟨by rw [lay_len.1, lay_len.2.2], fun i t u ht hu hn => ?_⟩
  obtain ⟨t', u', h1, h2, h3⟩ := layM_at (lt_of_some lay_len.2.2 ht)
  rw [ht] at h1; rw [hu] at h2
  cases h1; cases h2
  rcases h3 with h3 | h3
  · exact absurd h3.2 hn
  · exact h3.2.1.symm
theorem unX {i : Nat} (h : i < 204) : (q_un layX i = true ↔ 139 ≤ i) := by
  obtain ⟨t, u, h1, h2, h3⟩ := layX_at h
  unfold q_un
  rw [h1]
  show (t.1 == 50) = true ↔ _
  rw [beq_iff_eq]
  omega
theorem unM {i : Nat} (h : i < 204) : (q_un layM i = true ↔ i < 139) := by
  obtain ⟨t, u, h1, h2, h3⟩ := layM_at h
  unfold q_un
  rw [h1]
  show (t.1 == 50) = true ↔ _
  rw [beq_iff_eq]
  omega
theorem jx {M : q_M} {x m : ST} {args : List Value} {Q0 : q_P} {Q1 : ST → Option Value → Prop} (h : q_met M (qs layX x) args Q0) (hq : ∀ σ r, Q0 σ r → ∃ s', σ = qs layX s' ∧ Q1 s' r) : q_met M (qs q_lay0 (jn x m)) args (fun σ r => ∃ s', σ = qs q_lay0 (jn s' m) ∧ Q1 s' r) := by
  have hA : q_met M (qs layX (jn x m)) args (fun σ r => ∃ s', σ = qs layX s' ∧ Q1 s' r) := by
    refine q_met.sim (σ := qs layX x) (σ' := qs layX (jn x m)) ⟨rfl, fun i t hi hn => ?_⟩ h (fun s r hs => ⟨s, ⟨rfl, fun _ _ _ _ => ⟨fun _ => rfl, fun _ => rfl, fun _ => rfl⟩⟩, hq s r hs⟩)
    have hi : layX[i]? = some t := hi
    obtain ⟨t', u', h1, h2, h3⟩ := layX_at (lt_of_some lay_len.2.1 hi)
    rw [hi] at h1; cases h1
    have h4 : ¬ 139 ≤ i := by
      rcases h3 with h3 | h3
      · exact absurd h3.2 hn
      · omega
    refine ⟨fun b => ?_, fun b => ?_, fun b => rfl⟩
    · show Int32.ofInt (if 139 ≤ i then m.1 i b else x.1 i b) = Int32.ofInt (x.1 i b)
      rw [if_neg h4]
    · show (if 139 ≤ i then m.2 i b else x.2 i b) = x.2 i b
      rw [if_neg h4]
  have hB : q_met M (qs q_lay0 (jn x m)) args (fun σ r => ∃ s', sameS σ (qs q_lay0 (jn s' m)) ∧ Q1 s' r) := by
    refine q_met.frame hidesX hA (fun s r hs => ⟨[], ?_, ?_⟩)
    · obtain ⟨s', rfl, _⟩ := hs
      rw [List.append_nil]; rfl
    · obtain ⟨s', rfl, hQ⟩ := hs
      refine ⟨s', ⟨List.append_nil _, fun i t hi hn => ?_⟩, hQ⟩
      have hi : (q_lay0 ++ [])[i]? = some t := hi
      rw [List.append_nil] at hi
      have hlt := lt_of_some lay_len.1 hi
      by_cases hu : q_un layX i = true
      · have h4 : 139 ≤ i := (unX hlt).mp hu
        refine ⟨fun b => ?_, fun b => ?_, fun b => ?_⟩
        · show Int32.ofInt (if 139 ≤ i then m.1 i b else s'.1 i b) = (if q_un layX i = true then Int32.ofInt (if 139 ≤ i then m.1 i b else x.1 i b) else Int32.ofInt (s'.1 i b))
          rw [if_pos hu, if_pos h4, if_pos h4]
        · show (if 139 ≤ i then m.2 i b else s'.2 i b) = (if q_un layX i = true then (if 139 ≤ i then m.2 i b else x.2 i b) else s'.2 i b)
          rw [if_pos hu, if_pos h4, if_pos h4]
        · show q_R0 i b = (if q_un layX i = true then q_R0 i b else q_R0 i b)
          rw [if_pos hu]
      · have h4 : ¬ 139 ≤ i := fun h => hu ((unX hlt).mpr h)
        refine ⟨fun b => ?_, fun b => ?_, fun b => ?_⟩
        · show Int32.ofInt (if 139 ≤ i then m.1 i b else s'.1 i b) = (if q_un layX i = true then Int32.ofInt (if 139 ≤ i then m.1 i b else x.1 i b) else Int32.ofInt (s'.1 i b))
          rw [if_neg hu, if_neg h4]
        · show (if 139 ≤ i then m.2 i b else s'.2 i b) = (if q_un layX i = true then (if 139 ≤ i then m.2 i b else x.2 i b) else s'.2 i b)
          rw [if_neg hu, if_neg h4]
        · show q_R0 i b = (if q_un layX i = true then q_R0 i b else q_R0 i b)
          rw [if_neg hu]
  exact q_met.sim ⟨rfl, fun _ _ _ _ => ⟨fun _ => rfl, fun _ => rfl, fun _ => rfl⟩⟩ hB (fun s r ⟨s', h1, h2⟩ => ⟨_, h1, s', rfl, h2⟩)
theorem jm {M : q_M} {x m : ST} {args : List Value} {Q0 : q_P} {Q1 : ST → Option Value → Prop} (h : q_met M (qs layM m) args Q0) (hq : ∀ σ r, Q0 σ r → ∃ s', σ = qs layM s' ∧ Q1 s' r) : q_met M (qs q_lay0 (jn x m)) args (fun σ r => ∃ s', σ = qs q_lay0 (jn x s') ∧ Q1 s' r) := by
  have hA : q_met M (qs layM (jn x m)) args (fun σ r => ∃ s', σ = qs layM s' ∧ Q1 s' r) := by
    refine q_met.sim (σ := qs layM m) (σ' := qs layM (jn x m)) ⟨rfl, fun i t hi hn => ?_⟩ h (fun s r hs => ⟨s, ⟨rfl, fun _ _ _ _ => ⟨fun _ => rfl, fun _ => rfl, fun _ => rfl⟩⟩, hq s r hs⟩)
    have hi : layM[i]? = some t := hi
    obtain ⟨t', u', h1, h2, h3⟩ := layM_at (lt_of_some lay_len.2.2 hi)
    rw [hi] at h1; cases h1
    have h4 : 139 ≤ i := by
      rcases h3 with h3 | h3
      · exact absurd h3.2 hn
      · omega
    refine ⟨fun b => ?_, fun b => ?_, fun b => rfl⟩
    · show Int32.ofInt (if 139 ≤ i then m.1 i b else x.1 i b) = Int32.ofInt (m.1 i b)
      rw [if_pos h4]
    · show (if 139 ≤ i then m.2 i b else x.2 i b) = m.2 i b
      rw [if_pos h4]
  have hB : q_met M (qs q_lay0 (jn x m)) args (fun σ r => ∃ s', sameS σ (qs q_lay0 (jn x s')) ∧ Q1 s' r) := by
    refine q_met.frame hidesM hA (fun s r hs => ⟨[], ?_, ?_⟩)
    · obtain ⟨s', rfl, _⟩ := hs
      rw [List.append_nil]; rfl
    · obtain ⟨s', rfl, hQ⟩ := hs
      refine ⟨s', ⟨List.append_nil _, fun i t hi hn => ?_⟩, hQ⟩
      have hi : (q_lay0 ++ [])[i]? = some t := hi
      rw [List.append_nil] at hi
      have hlt := lt_of_some lay_len.1 hi
      by_cases hu : q_un layM i = true
      · have h4 : ¬ 139 ≤ i := by have := (unM hlt).mp hu; omega
        refine ⟨fun b => ?_, fun b => ?_, fun b => ?_⟩
        · show Int32.ofInt (if 139 ≤ i then s'.1 i b else x.1 i b) = (if q_un layM i = true then Int32.ofInt (if 139 ≤ i then m.1 i b else x.1 i b) else Int32.ofInt (s'.1 i b))
          rw [if_pos hu, if_neg h4, if_neg h4]
        · show (if 139 ≤ i then s'.2 i b else x.2 i b) = (if q_un layM i = true then (if 139 ≤ i then m.2 i b else x.2 i b) else s'.2 i b)
          rw [if_pos hu, if_neg h4, if_neg h4]
        · show q_R0 i b = (if q_un layM i = true then q_R0 i b else q_R0 i b)
          rw [if_pos hu]
      · have h4 : 139 ≤ i := by
          by_cases h5 : i < 139
          · exact absurd ((unM hlt).mpr h5) hu
          · omega
        refine ⟨fun b => ?_, fun b => ?_, fun b => ?_⟩
        · show Int32.ofInt (if 139 ≤ i then s'.1 i b else x.1 i b) = (if q_un layM i = true then Int32.ofInt (if 139 ≤ i then m.1 i b else x.1 i b) else Int32.ofInt (s'.1 i b))
          rw [if_neg hu, if_pos h4]
        · show (if 139 ≤ i then s'.2 i b else x.2 i b) = (if q_un layM i = true then (if 139 ≤ i then m.2 i b else x.2 i b) else s'.2 i b)
          rw [if_neg hu, if_pos h4]
        · show q_R0 i b = (if q_un layM i = true then q_R0 i b else q_R0 i b)
          rw [if_neg hu]
  exact q_met.sim ⟨rfl, fun _ _ _ _ => ⟨fun _ => rfl, fun _ => rfl, fun _ => rfl⟩⟩ hB (fun s r ⟨s', h1, h2⟩ => ⟨_, h1, s', rfl, h2⟩)
