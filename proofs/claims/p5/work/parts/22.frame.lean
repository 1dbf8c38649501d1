/-! FRAMES: a contract proved where some cells aren't seen holds where they are seen, and leaves them as they are. -/
/-- the cells that a list doesn't see -/
def q_un (la : List (Nat × Nat)) (i : Nat) : Bool := match la[i]? with
  | some t => t.1 == 50
  | none => false
/-- the cells that la doesn't see as in s, the others as in s'; the cells' kinds are L -/
def q_mix (la : List (Nat × Nat)) (s s' : q_S) (L : List (Nat × Nat)) : q_S :=
  (fun i b => if q_un la i = true then s.1 i b else s'.1 i b, fun i b => if q_un la i = true then s.2.1 i b else s'.2.1 i b, fun i b => if q_un la i = true then s.2.2.1 i b else s'.2.2.1 i b, L)
def q_hides (la lb : List (Nat × Nat)) : Prop := la.length = lb.length ∧ ∀ (i : Nat) (t u : Nat × Nat), la[i]? = some t → lb[i]? = some u → t.1 ≠ 50 → u = t
theorem q_hides.other {la lb : List (Nat × Nat)} (h : q_hides la lb) {i : Nat} {u : Nat × Nat} (hi : lb[i]? = some u) : ∃ t, la[i]? = some t := by
  obtain ⟨hl, -⟩ := List.getElem?_eq_some_iff.mp hi
  exact ⟨la[i]'(by rw [h.1]; exact hl), List.getElem?_eq_some_iff.mpr ⟨by rw [h.1]; exact hl, rfl⟩⟩
theorem q_hides.other' {la lb : List (Nat × Nat)} (h : q_hides la lb) {i : Nat} {u : Nat × Nat} (hi : la[i]? = some u) : ∃ t, lb[i]? = some t := by
  obtain ⟨hl, -⟩ := List.getElem?_eq_some_iff.mp hi
  exact ⟨lb[i]'(by rw [← h.1]; exact hl), List.getElem?_eq_some_iff.mpr ⟨by rw [← h.1]; exact hl, rfl⟩⟩
theorem q_hides.AL {la lb : List (Nat × Nat)} (h : q_hides la lb) {ε : q_E} {I : Nat → Nat → Int32} {J : Nat → Nat → Int64} {R : Nat → Nat → Option Nat} {q : Nat} (hq : q_AL ε (I, J, R, la) q) : q_AL ε (I, J, R, lb) q := by
  refine ⟨hq.1, fun i u hi e => ?_⟩
  have hi : lb[i]? = some u := hi
  obtain ⟨t, ht⟩ := h.other hi
  have hn : t.1 ≠ 50 := hq.2 i t ht e
  rw [h.2 i t u ht hi hn]; exact hn
theorem q_hides.W {la lb : List (Nat × Nat)} (h : q_hides la lb) {ε : q_E} {I : Nat → Nat → Int32} {J : Nat → Nat → Int64} {R : Nat → Nat → Option Nat} {H : Heap} (hW : q_W ε (I, J, R, lb) H) : q_W ε (I, J, R, la) H := by
  refine ⟨?_, ?_, fun i t hi hn => ?_⟩
  · rw [show ((I, J, R, la) : q_S).2.2.2 = la from rfl, h.1]; exact hW.1
  · rw [show ((I, J, R, la) : q_S).2.2.2 = la from rfl, h.1]; exact hW.2.1
  · have hi : la[i]? = some t := hi
    obtain ⟨u, hu⟩ := h.other' hi
    have e := h.2 i t u hi hu hn
    subst e
    rw [q_cell_eq (s := (I, J, R, lb)) (s' := (I, J, R, la)) (fun _ => rfl) (fun _ => rfl) (fun _ => rfl)]
    exact hW.2.2 i u hu hn
theorem q_mix_u {la : List (Nat × Nat)} {s s' : q_S} {L : List (Nat × Nat)} {ε : q_E} {i : Nat} {u : Nat × Nat} (h : q_un la i = true) : q_cell ε (q_mix la s s' L) i u = q_cell ε s i u :=
  q_cell_eq (fun _ => if_pos h) (fun _ => if_pos h) (fun _ => if_pos h)
theorem q_mix_s {la : List (Nat × Nat)} {s s' : q_S} {L : List (Nat × Nat)} {ε : q_E} {i : Nat} {u : Nat × Nat} (h : ¬ q_un la i = true) : q_cell ε (q_mix la s s' L) i u = q_cell ε s' i u :=
  q_cell_eq (fun _ => if_neg h) (fun _ => if_neg h) (fun _ => if_neg h)
theorem q_met.frame {M : q_M} {I : Nat → Nat → Int32} {J : Nat → Nat → Int64} {R : Nat → Nat → Option Nat} {la lb : List (Nat × Nat)} {args : List Value} {Q Q' : q_P} (hh : q_hides la lb)
    (h : q_met M (I, J, R, la) args Q) (hq : ∀ s r, Q s r → ∃ x, s.2.2.2 = la ++ x ∧ Q' (q_mix la (I, J, R, lb) s (lb ++ x)) r) : q_met M (I, J, R, lb) args Q' := by
  intro l ε
  refine Jvm.Free.MetFree.mono (h l ε) ?_ (fun _ _ _ _ _ h => h) ?_
  · rintro a U ⟨ha, hW, hA⟩
    exact ⟨ha, hh.W hW, hA⟩
  · rintro a st o t ⟨ha, hW, hA⟩ ⟨⟨⟨s', r, ho, hQ, hW', hs'⟩, hsz, hk⟩, L, hF, hL⟩
    obtain ⟨x, hx, hQ'⟩ := hq s' r hQ
    refine ⟨⟨⟨_, r, ho, hQ', ⟨?_, ?_, ?_⟩, ?_⟩, hsz, fun q h1 h2 => hk q h1 fun h3 => h2 (hh.AL h3)⟩, L, hF, fun q hq => hh.AL (hL q hq)⟩
    · have := hW'.1
      rw [hx, List.length_append, hh.1] at this
      show _ = _ + (lb ++ x).length
      rw [List.length_append]; exact this
    · have := hW'.2.1
      rw [hx, List.length_append, hh.1] at this
      show (lb ++ x).length ≤ _
      rw [List.length_append]; exact this
    · intro i u hi hn
      have hi : (lb ++ x)[i]? = some u := hi
      by_cases hu : q_un la i = true
      · rw [q_mix_u hu]
        unfold q_un at hu
        cases ht : la[i]? with
        | none => rw [ht] at hu; cases hu
        | some t =>
          rw [ht] at hu
          have h50 : t.1 = 50 := by simpa using hu
          obtain ⟨hl, -⟩ := List.getElem?_eq_some_iff.mp ht
          rw [List.getElem?_append_left (by rw [← hh.1]; exact hl)] at hi
          have ha := hW.2.2 i u hi hn
          refine ha.kept (hk _ ha.lt fun h3 => h3.2 i t ht rfl h50)
      · rw [q_mix_s hu]
        refine hW'.2.2 i u ?_ hn
        rw [hx]
        by_cases hl : i < la.length
        · have ht : la[i]? = some la[i] := List.getElem?_eq_some_iff.mpr ⟨hl, rfl⟩
          rw [List.getElem?_append_left (by rw [← hh.1]; exact hl)] at hi
          rw [List.getElem?_append_left hl]
          have hn' : (la[i]).1 ≠ 50 := fun h => hu (by unfold q_un; rw [ht]; simpa using h)
          rw [ht, hh.2 i _ u ht hi hn']
        · have hl := Nat.le_of_not_lt hl
          rw [List.getElem?_append_right (by rw [← hh.1]; exact hl), ← hh.1] at hi
          rw [List.getElem?_append_right hl]; exact hi
    · intro i u hi hn
      have hi : (lb ++ x)[i]? = some u := hi
      refine ⟨Nat.le_add_right _ _, fun j v hj e => ?_⟩
      have hj : lb[j]? = some v := hj
      have e : i = j := Nat.add_left_cancel e
      subst e
      obtain ⟨hl, -⟩ := List.getElem?_eq_some_iff.mp hj
      rw [List.getElem?_append_left hl, hj] at hi
      injection hi with hi
      rw [hi]; exact hn
