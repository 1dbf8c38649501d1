/-! THE REFERENCE: asksHere, layEnds -/
theorem ksum_sm (so as : Int → Int) (kd : Int → Int → Int) (p : Int) : ksum so as kd p = sm (fun k => as (kd p k)) 0 (ar (so p)).toNat := by
  have hr := ar_r (so p)
  unfold ksum
  by_cases c0 : ar (so p) = 0
  · rw [c0, if_neg (by omega), if_neg (by omega), if_neg (by omega)]; rfl
  · by_cases c1 : ar (so p) = 1
    · rw [c1, if_pos (by omega), if_neg (by omega), if_neg (by omega)]
      show _ = 0 + as (kd p (0 + ((0 : Nat) : Int)))
      rw [show (0 : Int) + ((0 : Nat) : Int) = 0 by omega]; omega
    · by_cases c2 : ar (so p) = 2
      · rw [c2, if_pos (by omega), if_pos (by omega), if_neg (by omega)]
        show _ = 0 + as (kd p (0 + ((0 : Nat) : Int))) + as (kd p (0 + ((1 : Nat) : Int)))
        rw [show (0 : Int) + ((0 : Nat) : Int) = 0 by omega, show (0 : Int) + ((1 : Nat) : Int) = 1 by omega]; omega
      · rw [show ar (so p) = 3 by omega, if_pos (by omega), if_pos (by omega), if_pos (by omega)]
        show _ = 0 + as (kd p (0 + ((0 : Nat) : Int))) + as (kd p (0 + ((1 : Nat) : Int))) + as (kd p (0 + ((2 : Nat) : Int)))
        rw [show (0 : Int) + ((0 : Nat) : Int) = 0 by omega, show (0 : Int) + ((1 : Nat) : Int) = 1 by omega, show (0 : Int) + ((2 : Nat) : Int) = 2 by omega]; omega
theorem c_X11_asksHere {s : ST} {b p : Int} {Q : ST → Int → Prop} (hb : 0 ≤ b ∧ b < 6) (hp : 0 ≤ p ∧ p < 40) (hk : ∀ k, 0 ≤ k → k < ar (s.1 146 (40 * b + p)) → (0 ≤ s.1 152 (3 * (40 * b + p) + k) ∧ s.1 152 (3 * (40 * b + p) + k) < 40) ∧ 1 ≤ s.1 151 (40 * b + s.1 152 (3 * (40 * b + p) + k)) ∧ s.1 151 (40 * b + s.1 152 (3 * (40 * b + p) + k)) ≤ 1000000)
    (hr : s.1 146 (40 * b + p) = 2 → P_X11_rootOf s b p ∧ (F_X11_rootOf s b p < 0 ∨ (0 ≤ F_X11_rootOf s b p ∧ F_X11_rootOf s b p < 40) ∧ 1 ≤ s.1 151 (40 * b + F_X11_rootOf s b p) ∧ s.1 151 (40 * b + F_X11_rootOf s b p) ≤ 1000000))
    (hQ : ∀ v, (1 ≤ v ∧ v ≤ 1000000) → (v < 1000000 → v = 1 + ksum (bso s b) (bas s b) (bkd s b) p + exw (bso s b) (bbi s b) (bdR s b) (bas s b) (bkd s b) p) ∧ (v = 1000000 → 1000000 ≤ 1 + ksum (bso s b) (bas s b) (bkd s b) p + exw (bso s b) (bbi s b) (bdR s b) (bas s b) (bkd s b) p) → Q s v) : C_X11_asksHere s b p Q := by
  have har := ar_r (s.1 146 (40 * b + p))
  have eA : F_X11_kidsOf s (s.1 146 (40 * b + p)) = ar (s.1 146 (40 * b + p)) := rfl
  have k99 : ∀ a, 1 ≤ a → a = 1 + ksum (bso s b) (bas s b) (bkd s b) p + exw (bso s b) (bbi s b) (bdR s b) (bas s b) (bkd s b) p → K_X11_asksHere_99 s a Q := by
    intro a a1 ha
    refine s_X11_asksHere_99 ?_
    (repeat' (with_reducible first | refine ⟨?_, ?_⟩ | intro _))
    all_goals first | omega | skip
    · exact hQ _ (by omega) ⟨fun _ => ha, fun h => by omega⟩
    · exact hQ _ (by omega) ⟨fun h => by omega, fun h => by omega⟩
  have k13 : ∀ (m : Nat) (a j : Int), ar (s.1 146 (40 * b + p)) - j = (m : Int) → 0 ≤ j → a = 1 + sm (fun k => s.1 151 (40 * b + s.1 152 (3 * (40 * b + p) + k))) 0 j.toNat → (1 ≤ a ∧ a ≤ 1 + 1000000 * j) → K_X11_asksHere_13 s b p (40 * b + p) a j Q := by
    intro m
    induction m with
    | zero =>
      intro a j hm j0 ha ha2
      have hj : j = ar (s.1 146 (40 * b + p)) := by omega
      have hks : ksum (bso s b) (bas s b) (bkd s b) p = sm (fun k => s.1 151 (40 * b + s.1 152 (3 * (40 * b + p) + k))) 0 j.toNat := by
        rw [ksum_sm, hj]; rfl
      have hex := exw_raw s b p
      by_cases e : s.1 146 (40 * b + p) = 2
      · obtain ⟨pr, h2⟩ := hr e
        rw [if_pos e] at hex
        refine s_X11_asksHere_13 fun _ _ _ _ _ _ => ⟨⟨by omega, by omega⟩, fun _ => ⟨fun h => absurd e h, fun _ => ⟨pr, fun h => ?_, fun h => ?_⟩⟩, fun h => absurd (show F_X11_kidsOf s (s.1 146 (40 * b + p)) ≤ j by omega) h⟩
        · rw [if_pos h] at hex
          exact k99 _ ha2.1 (by omega)
        · rw [if_neg h] at hex
          (repeat' (with_reducible first | refine ⟨?_, ?_⟩ | intro _))
          all_goals first | omega | skip
          exact k99 _ (by omega) (by omega)
      · rw [if_neg e] at hex
        refine s_X11_asksHere_13 fun _ _ _ _ _ _ => ⟨⟨by omega, by omega⟩, fun _ => ⟨fun _ => k99 _ ha2.1 (by omega), fun h => absurd h (fun h => e (by first | exact h | exact Classical.byContradiction h))⟩, fun h => absurd (show F_X11_kidsOf s (s.1 146 (40 * b + p)) ≤ j by omega) h⟩
    | succ m ih =>
      intro a j hm j0 ha ha2
      have hkj := hk j j0 (by omega)
      refine s_X11_asksHere_13 fun _ _ _ _ _ _ => ⟨⟨by omega, by omega⟩, fun h => absurd (show F_X11_kidsOf s (s.1 146 (40 * b + p)) ≤ j from h) (by omega), fun _ => ?_⟩
      (repeat' (with_reducible first | refine ⟨?_, ?_⟩ | intro _))
      all_goals first | omega | skip
      refine ih _ (j + 1) (by omega) (by omega) ?_ (by omega)
      rw [show (j + 1).toNat = j.toNat + 1 by omega]
      show _ = 1 + (sm (fun k => s.1 151 (40 * b + s.1 152 (3 * (40 * b + p) + k))) 0 j.toNat + s.1 151 (40 * b + s.1 152 (3 * (40 * b + p) + (0 + ((j.toNat : Nat) : Int)))))
      rw [show 0 + ((j.toNat : Nat) : Int) = j by omega]
      omega
  refine s_X11_asksHere ?_
  (repeat' (with_reducible first | refine ⟨?_, ?_⟩ | intro _))
  all_goals first | omega | skip
  exact k13 (ar (s.1 146 (40 * b + p))).toNat 1 0 (by omega) (by omega) rfl (by omega)
/-- a bank whose ends are still to be laid: E is what they will be -/
def WFE (s : ST) (b : Int) (E : Int → Int) : Prop := T1 (bso s b) E (bkd s b) (s.1 142 b) ∧ T2 (bdR s b) E (s.1 143 b) (s.1 142 b) ∧ T3 (bdO s b) (bdR s b) E (s.1 143 b) (s.1 142 b) ∧ T4 (bso s b) E (bbi s b) (bdO s b) (bkd s b) (s.1 142 b) ∧ (0 ≤ b ∧ b < 6)
theorem WFE.root {s : ST} {b p : Int} {E : Int → Int} (h : WFE s b E) (p0 : 0 ≤ p) (p1 : p < s.1 142 b) (e : s.1 146 (40 * b + p) = 2) : P_X11_rootOf s b p ∧ (F_X11_rootOf s b p < 0 ∨ (0 ≤ F_X11_rootOf s b p ∧ F_X11_rootOf s b p < s.1 142 b) ∧ E (F_X11_rootOf s b p) < p) := by
  obtain ⟨t1, t2, t3, t4, hb⟩ := h
  have nD := t2.1
  have nP := t2.2.1
  obtain ⟨⟨d0, d1⟩, d2, d3⟩ := t3 p p0 p1
  have h4 := (t4 p p0 p1).1 e
  have e1 : bdO s b p = s.1 149 (40 * b + p) := rfl
  have e2 : bbi s b p = s.1 153 (40 * b + p) := rfl
  rw [e2] at h4
  rw [e1] at d0 d1 d2 d3 h4
  by_cases c : s.1 153 (40 * b + p) < 100
  · obtain ⟨⟨a1, a2, a3⟩, a4⟩ := h4.1 c
    refine ⟨?_, ?_⟩
    · (repeat' (with_reducible first | refine ⟨?_, ?_⟩ | intro _))
      all_goals omega
    · rcases a4 with a4 | ⟨a4, a5⟩
      · refine Or.inl ?_
        rw [F_root]
        unfold rt
        rw [e2, if_pos c, if_neg (by rw [a4]; omega)]; omega
      · have hq := t1 _ a1 (show s.1 153 (40 * b + p) < s.1 142 b by omega)
        have k1 := hq.2.2.2.1 (by rw [a4]; decide)
        have k2 := hq.2.2.2.2.2.1 (by rw [a4]; decide)
        have hF : F_X11_rootOf s b p = s.1 153 (40 * b + p) + 1 := by
          rw [F_root]
          unfold rt
          rw [e2, if_pos c, if_pos a4]; exact k1.1
        refine Or.inr ⟨by omega, ?_⟩
        rw [hF, ← k1.1]
        omega
  · have h5 := h4.2 (by omega)
    refine ⟨?_, Or.inr ?_⟩
    · (repeat' (with_reducible first | refine ⟨?_, ?_⟩ | intro _))
      all_goals omega
    · have hF : F_X11_rootOf s b p = bdR s b (s.1 153 (40 * b + p) - 100) := by
        rw [F_root]
        unfold rt
        rw [e2, if_neg c]
      have hd := t2.2.2.2.2.1 (s.1 153 (40 * b + p) - 100) (by omega) (by omega)
      have hlt := t2.lt t1 (show 0 ≤ s.1 153 (40 * b + p) - 100 by omega) h5 d1
      rw [hF]
      exact ⟨hd, by omega⟩
theorem WFE.keep {s s' : ST} {b : Int} {E : Int → Int} (h : WFE s b E) (hm : md [] [150, 151, 183] s s') : WFE s' b E := by
  have k : ∀ a, a ∈ [142, 143, 145, 146, 149, 152, 153] → s'.1 a = s.1 a := fun a ha => by
    simp only [List.mem_cons, List.not_mem_nil, or_false] at ha
    rcases ha with rfl | rfl | rfl | rfl | rfl | rfl | rfl <;> exact funext fun x => hm.c _ (by decide) (by decide) x
  unfold WFE bso bkd bdR bdO bbi at *
  rw [k 142 (by decide), k 143 (by decide), k 145 (by decide), k 146 (by decide), k 149 (by decide), k 152 (by decide), k 153 (by decide)]
  exact h
/-- the asks of p are laid -/
def DN (s : ST) (b p : Int) : Prop := (1 ≤ s.1 151 (40 * b + p) ∧ s.1 151 (40 * b + p) ≤ 1000000) ∧ (s.1 151 (40 * b + p) < 1000000 → s.1 151 (40 * b + p) = 1 + ksum (bso s b) (bas s b) (bkd s b) p + exw (bso s b) (bbi s b) (bdR s b) (bas s b) (bkd s b) p) ∧ (s.1 151 (40 * b + p) = 1000000 → 1000000 ≤ 1 + ksum (bso s b) (bas s b) (bkd s b) p + exw (bso s b) (bbi s b) (bdR s b) (bas s b) (bkd s b) p)
theorem DN.keep {s s' : ST} {b p w : Int} (h : DN s b p) (hm : md [] [150, 151, 183] s s') (hw : ∀ z, z ≠ 40 * b + w → s'.1 151 z = s.1 151 z) (h1 : w ≠ p) (h2 : ∀ k, 0 ≤ k → k < ar (s.1 146 (40 * b + p)) → w ≠ s.1 152 (3 * (40 * b + p) + k)) (h3 : s.1 146 (40 * b + p) = 2 → 0 ≤ F_X11_rootOf s b p → w ≠ F_X11_rootOf s b p) : DN s' b p := by
  have k : ∀ a, a ∈ [145, 146, 152, 153] → s'.1 a = s.1 a := fun a ha => by
    simp only [List.mem_cons, List.not_mem_nil, or_false] at ha
    rcases ha with rfl | rfl | rfl | rfl <;> exact funext fun x => hm.c _ (by decide) (by decide) x
  have eF : F_X11_rootOf s' b p = F_X11_rootOf s b p := by
    rw [F_root, F_root]
    unfold bso bbi bdR bkd
    rw [k 145 (by decide), k 146 (by decide), k 152 (by decide), k 153 (by decide)]
  have ep : s'.1 151 (40 * b + p) = s.1 151 (40 * b + p) := hw _ (by omega)
  have e1 : ksum (bso s' b) (bas s' b) (bkd s' b) p = ksum (bso s b) (bas s b) (bkd s b) p := by
    rw [ksum_sm, ksum_sm]
    have ea : bso s' b p = bso s b p := by unfold bso; rw [k 146 (by decide)]
    rw [ea]
    refine sm_congr _ (fun i i0 i1 => ?_)
    show s'.1 151 (40 * b + s'.1 152 (3 * (40 * b + p) + i)) = s.1 151 (40 * b + s.1 152 (3 * (40 * b + p) + i))
    rw [k 152 (by decide)]
    have har := ar_r (s.1 146 (40 * b + p))
    have i1 : i < 0 + (((ar (s.1 146 (40 * b + p))).toNat : Nat) : Int) := i1
    have := h2 i i0 (by omega)
    exact hw _ (by omega)
  have e2 : exw (bso s' b) (bbi s' b) (bdR s' b) (bas s' b) (bkd s' b) p = exw (bso s b) (bbi s b) (bdR s b) (bas s b) (bkd s b) p := by
    rw [exw_raw, exw_raw, eF, k 146 (by decide)]
    by_cases e : s.1 146 (40 * b + p) = 2
    · rw [if_pos e, if_pos e]
      by_cases d : F_X11_rootOf s b p < 0
      · rw [if_pos d, if_pos d]
      · rw [if_neg d, if_neg d]
        have := h3 e (by omega)
        exact hw _ (by omega)
    · rw [if_neg e, if_neg e]
  unfold DN
  rw [ep, e1, e2]
  exact h
