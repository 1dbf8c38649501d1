/-! THE START: what the Statement gives at the law's entry, in the abstract machine's words. By program (wip/whole/gen_amb.py). -/
theorem q_instC (c : Nat) (h : c < 12) : Cond.instantiable (q_R c) (q_N c) ∈ q_gt := by
  match c, h with
  | 0, _ => exact iX0
  | 1, _ => exact iX1
  | 2, _ => exact iX2
  | 3, _ => exact iX3
  | 4, _ => exact iX4
  | 5, _ => exact iX5
  | 6, _ => exact iX6
  | 7, _ => exact iX7
  | 8, _ => exact iX8
  | 9, _ => exact iX9
  | 10, _ => exact iX10
  | 11, _ => exact iX11
theorem q_nestsIn : ∀ q ∈ q_nests, Cond.methodLinkNest q.1 q.2.1 q.2.2.1 q.2.2.2 ∈ lw_tbl := by
  intro q hq
  simp only [q_nests, List.mem_cons, List.not_mem_nil, or_false] at hq
  rcases hq with rfl | rfl | rfl | rfl | rfl | rfl | rfl
  · exact (List.mem_append_right _ (List.mem_append_left _ (List.mem_of_getElem? (i := 30) rfl)))
  · exact (List.mem_append_right _ (List.mem_append_left _ (List.mem_of_getElem? (i := 126) rfl)))
  · exact (List.mem_append_right _ (List.mem_append_left _ (List.mem_of_getElem? (i := 158) rfl)))
  · exact (List.mem_append_right _ (List.mem_append_right _ (List.mem_append_right _ (List.mem_append_left _ (List.mem_of_getElem? (i := 48) rfl)))))
  · exact (List.mem_append_right _ (List.mem_append_left _ (List.mem_of_getElem? (i := 131) rfl)))
  · exact (List.mem_append_right _ (List.mem_append_right _ (List.mem_append_right _ (List.mem_append_right _ (List.mem_append_left _ (List.mem_of_getElem? (i := 156) rfl))))))
  · exact (List.mem_append_right _ (List.mem_append_right _ (List.mem_append_right _ (List.mem_append_right _ (List.mem_append_left _ (List.mem_of_getElem? (i := 0) rfl))))))
def q_sT : Term := .field (.string "WhyNot$Reader" 37) "java/lang/String" "value" "[B"
theorem q_hA : ∀ j, j < 17 → (Cond.eq (.elem (.static "WhyNot" "ARITY" "[I") (.int (Int32.ofNat j))) (.int (q_arity.getD j 0))) ∈ flatC (Jvm.Cond.and given_1 narrow_1) := by decide +kernel
theorem q_hK : ∀ j, j < 6 → (Cond.eq (.elem (.static "WhyNot" "KIND_ARITY" "[I") (.int (Int32.ofNat j))) (.int (q_karity.getD j 0))) ∈ flatC (Jvm.Cond.and given_1 narrow_1) := by decide +kernel
theorem q_hB : ∀ j, j < 107 → (Cond.eq (.elem q_sT (.int (Int32.ofNat j))) (.int (([q_tbyt].getD 0 []).getD j 0))) ∈ flatC (Jvm.Cond.and given_1 narrow_1) := by decide +kernel
def q_Tok (s : State) (args : Array Value) : Prop := ∃ ε : q_E, ε.2.2.1 = s.heap.size ∧ q_Am ε s s.heap ∧ ∀ b, args = #[.ref b] → ε.2.2.2 1002 = b
theorem q_arrT {s : State} {args : Array Value} {ty : FieldType} (h : (Cond.arrayClass ty).before args s = true) (hn : ∀ C, ty ≠ .object C) : ∃ cA, ArrOfT s cA ty ∧ va_RA s cA ty := by
  obtain ⟨c, k, comp, h1, h2, h3⟩ := Cond.arrayClass_spec h
  refine ⟨c, fun n z => ⟨fun k h => (by cases h), k, h2, comp, h3⟩, ?_⟩
  cases ty with
  | object C => exact absurd rfl (hn C)
  | _ => exact h1
set_option maxHeartbeats 4000000 in
theorem q_start {s : State} {b : Nat} (hts : ∀ w ∈ lw_tbl, w.before #[Value.ref b] s = true) (hgv : (Jvm.Cond.and given_1 narrow_1).before #[Value.ref b] s = true) : ∃ ε : q_E, ε.2.2.1 = s.heap.size ∧ ε.2.2.2 1002 = b ∧ q_Am ε s s.heap := by
  have hg : ∀ w ∈ q_gt, w.before #[Value.ref b] s = true := fun w hw => hts w (List.mem_filter.mp hw).1
  have hs := flat_of_before _ hgv
  have hA : ∀ a : Nat, a < s.heap.size → ¬ s.heap.size ≤ a := fun a h => Nat.not_le.mpr h
  have hKn : ∀ c : Nat, ∃ (x : ClassId × (Nat → Nat)), c < 12 → u_Kn s (q_R c) (q_T c) (q_N c) x.1 x.2 := by
    intro c
    by_cases hc : c < 12
    · obtain ⟨cC, iS, h⟩ := u_known (C := q_R c) (T := q_T c) (N := q_N c) (n := q_N c) hg (q_inC c hc) (hg _ (q_instC c hc))
      exact ⟨(cC, iS), fun _ => h⟩
    · exact ⟨(0, fun _ => 0), fun h => absurd h hc⟩
  obtain ⟨cI, i1, i2⟩ := q_arrT (ty := .int) (hg _ q_ar_int) (fun C h => by cases h)
  obtain ⟨cJ, j1, j2⟩ := q_arrT (ty := .long) (hg _ q_ar_long) (fun C h => by cases h)
  obtain ⟨cB, b1, b2⟩ := q_arrT (ty := .byte) (hg _ q_ar_byte) (fun C h => by cases h)
  obtain ⟨cZ, z1, z2⟩ := q_arrT (ty := .boolean) (hg _ q_ar_boolean) (fun C h => by cases h)
  have hAO : va_AO "WhyNot$Tree" s := va_AO.of (hts _ (List.mem_append_right _ (List.mem_append_right _ (List.mem_append_right _ (List.mem_append_left _ (List.mem_of_getElem? (i := 66) rfl))))))
  obtain ⟨comp, cT, kT, o1, o2, o3, o4, o5⟩ := Cond.arrayOver_spec hAO
  obtain ⟨t0, e0, T0⟩ := va_Tof (tm := .static "WhyNot" "ARITY" "[I") (ty := .int) (N := 17) (f := fun j => .int (q_arity.getD j 0)) (A := fun q => s.heap.size ≤ q) (by decide) (hs _ (by decide +kernel)) (va_eqt (hs (.eq (.length (.static "WhyNot" "ARITY" "[I")) (.int 17)) (by decide +kernel))) (fun j hj => va_eqt (hs _ (q_hA j hj))) hA
  obtain ⟨t1, e1, T1⟩ := va_Tof (tm := .static "WhyNot" "KIND_ARITY" "[I") (ty := .int) (N := 6) (f := fun j => .int (q_karity.getD j 0)) (A := fun q => s.heap.size ≤ q) (by decide) (hs _ (by decide +kernel)) (va_eqt (hs (.eq (.length (.static "WhyNot" "KIND_ARITY" "[I")) (.int 6)) (by decide +kernel))) (fun j hj => va_eqt (hs _ (q_hK j hj))) hA
  have Z0 := va_Zref (A := fun q => s.heap.size ≤ q) (hts _ (List.mem_append_right _ (List.mem_append_right _ (List.mem_append_right _ (List.mem_append_right _ (List.mem_append_left _ (List.mem_of_getElem? (i := 18) rfl))))))) (hts _ (List.mem_append_right _ (List.mem_append_left _ (List.mem_of_getElem? (i := 1) rfl)))) e0 hA
  have Z1 := va_Zref (A := fun q => s.heap.size ≤ q) (hts _ (List.mem_append_right _ (List.mem_append_right _ (List.mem_append_right _ (List.mem_append_right _ (List.mem_append_left _ (List.mem_of_getElem? (i := 4) rfl))))))) (hts _ (List.mem_append_right _ (List.mem_append_left _ (List.mem_of_getElem? (i := 1) rfl)))) e1 hA
  have ZC := va_Zof (A := fun q => s.heap.size ≤ q) (hts _ (List.mem_append_right _ (List.mem_append_left _ (List.mem_of_getElem? (i := 211) rfl)))) (hts _ (List.mem_append_right _ (List.mem_append_left _ (List.mem_of_getElem? (i := 6) rfl)))) (va_eqt (hs (.eq (.static "java/lang/String" "COMPACT_STRINGS" "Z") (.int 1)) (by decide +kernel))) hA
  have ZF := va_Zqof (A := fun q => s.heap.size ≤ q) (hts _ (List.mem_append_right _ (List.mem_append_left _ (List.mem_of_getElem? (i := 227) rfl)))) (hts _ (List.mem_append_right _ (List.mem_append_left _ (List.mem_of_getElem? (i := 8) rfl)))) (hs (.isRef (.static "jdk/internal/util/Preconditions" "SIOOBE_FORMATTER" "Ljava/util/function/BiFunction;")) (by decide +kernel)) hA
  obtain ⟨adK, adV, VS, VE⟩ := vk_Sof (s := s) (args := #[Value.ref b]) (N := 1) (tm := fun _ => .string "WhyNot$Reader" 37) (len := [107]) (byt := [q_tbyt]) (A := fun q => s.heap.size ≤ q)
    (fun i hi => by have : i = 0 := by omega
                    subst this; decide) (fun i _ => hs _ (by decide +kernel)) (fun i _ => hs _ (by decide +kernel)) (fun i _ => hs _ (by decide +kernel))
    (fun i hi => by have : i = 0 := by omega
                    subst this; exact hs _ (by decide +kernel))
    (fun i hi j hj => by have : i = 0 := by omega
                         subst this; exact hs _ (q_hB j hj))
    (fun i j hi hj hne => absurd (by omega) hne) hA
  have VE0 := VE 0 (by decide)
  obtain ⟨t5, F5⟩ : ∃ t5 : Nat, va_Z "jdk/internal/util/Preconditions" "SIOOBE_FORMATTER" "Ljava/util/function/BiFunction;" .null (fun q => s.heap.size ≤ q) s s.heap ∨ va_Z "jdk/internal/util/Preconditions" "SIOOBE_FORMATTER" "Ljava/util/function/BiFunction;" (.ref t5) (fun q => s.heap.size ≤ q) s s.heap := by
    rcases ZF with h | ⟨t, h⟩
    · exact ⟨0, Or.inl h⟩
    · exact ⟨t, Or.inr h⟩
  refine ⟨((fun c => (Classical.choose (hKn c)).1, fun c => (Classical.choose (hKn c)).2), (fun k => if k = 0 then cI else if k = 1 then cJ else if k = 2 then cB else if k = 3 then cZ else cT), s.heap.size, (fun k => if k = 1000 then t0 else if k = 1001 then t1 else if k = 1002 then b else if k = 1003 then adK 0 else if k = 1004 then adV 0 else t5)), rfl, rfl, ?_⟩
  refine ⟨⟨fun c q hq => ?_, fun k q hk => ?_⟩, hAO, ⟨fun q hq => va_Nw.of rfl (hts _ (q_nestsIn q hq)), va_Nw.of rfl (hts _ (List.mem_append_right _ (List.mem_append_right _ (List.mem_append_right _ (List.mem_append_right _ (List.mem_append_left _ (List.mem_of_getElem? (i := 17) rfl))))))), vk_R.of (hts _ (List.mem_append_right _ (List.mem_append_left _ (List.mem_of_getElem? (i := 201) rfl)))) VE0⟩, Z0, T0, Z1, T1, ?_, ZC, F5⟩
  · have hc : c < 12 := (List.getElem?_eq_some_iff.mp hq).1
    rw [q_cl c hc] at hq
    cases hq
    exact Classical.choose_spec (hKn c) hc
  · match k, hk with
    | 0, hk => cases hk; exact ⟨i1, i2⟩
    | 1, hk => cases hk; exact ⟨j1, j2⟩
    | 2, hk => cases hk; exact ⟨b1, b2⟩
    | 3, hk => cases hk; exact ⟨z1, z2⟩
    | 4, hk => cases hk; exact ⟨fun n z => ⟨fun k h => (by cases h), kT, o3, comp, o4⟩, ⟨kT, comp, o3, o4, o1, o5⟩⟩
    | k + 5, hk => simp [q_tys] at hk
  · refine ⟨fun i hi => ?_, fun i j _ _ _ => by omega⟩
    have : i = 0 := by omega
    subst this
    exact VS.1 0 (by decide)
