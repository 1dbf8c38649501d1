/-! THE CONSTRUCTORS: cells are made whose rows are empty already; the state is four functions and the cells so far. -/
def q_app (s : q_S) (t : Nat × Nat) : q_S := (s.1, s.2.1, s.2.2.1, s.2.2.2 ++ [t])
theorem q_new_app {s : q_S} {t : Nat × Nat} (h1 : ∀ k, s.1 s.2.2.2.length k = 0) (h2 : ∀ k, s.2.1 s.2.2.2.length k = 0) (h3 : ∀ k, s.2.2.1 s.2.2.2.length k = none) : q_new s t = q_app s t := by
  unfold q_new q_app
  congr 1
  · funext a b
    by_cases h : a = s.2.2.2.length
    · simp only [h, if_true]; exact (h1 b).symm
    · simp only [h, if_false]
  · congr 1
    · funext a b
      by_cases h : a = s.2.2.2.length
      · simp only [h, if_true]; exact (h2 b).symm
      · simp only [h, if_false]
    · congr 1
      funext a b
      by_cases h : a = s.2.2.2.length
      · simp only [h, if_true]; exact (h3 b).symm
      · simp only [h, if_false]
section QM
variable {M M2 : q_M} {I : Nat → Nat → Int32} {J : Nat → Nat → Int64} {R : Nat → Nat → Option Nat} {n kc ks pc : Nat} {lv : List (Nat × Value)} {st rest : List Value} {Q : q_F} {Q0 Q2 : q_P}
abbrev q_z (I : Nat → Nat → Int32) (J : Nat → Nat → Int64) (R : Nat → Nat → Option Nat) (n : Nat) : q_S := (I, J, R, q_lay0.take n)
theorem q_take {n : Nat} {t : Nat × Nat} (h : q_lay0[n]? = some t) : (q_lay0.take n).length = n ∧ q_lay0.take n ++ [t] = q_lay0.take (n + 1) := by
  have hn : n < q_lay0.length := (List.getElem?_eq_some_iff.mp h).1
  refine ⟨by simp; omega, ?_⟩
  rw [List.take_succ, h]
  rfl
theorem q_mko {ci idx : Nat} (hd : decode M.1.2.1 pc = .ok (.new idx, 3)) (hc : ci < 12) (hn : n < 1000) (hl : q_lay0[n]? = some (ci, 0)) (hcl : Cond.classLink M.1.1.cls idx (q_R ci) ∈ q_gt) (hin : Cond.instantiable (q_R ci) (q_N ci) ∈ q_gt) (hini : Cond.initialized (q_R ci) ∈ q_gt)
    (h1 : ∀ k, I n k = 0) (h2 : ∀ k, J n k = 0) (h3 : ∀ k, R n k = none) {kc' ks' : Nat} (e1 : kc + 1 = kc') (e2 : ks + q_N ci = ks')
    (hcells : Nat.ble kc' M.2.2.2.1 = true ∧ Nat.ble ks' M.2.2.2.2 = true) (kk : q_K M (q_z I J R (n + 1)) kc' ks' (pc + 3) lv (.ref n :: st) Q) : q_K M (q_z I J R n) kc ks pc lv st Q := by
  subst e1; subst e2
  obtain ⟨t1, t2⟩ := q_take hl
  refine q_newo hd hc (by show (q_lay0.take n).length < 1000; rw [t1]; exact hn) hcl hin hini ⟨Nat.le_of_ble_eq_true hcells.1, Nat.le_of_ble_eq_true hcells.2⟩ ?_
  rw [q_new_app (fun k => by show I (q_lay0.take n).length k = 0; rw [t1]; exact h1 k) (fun k => by show J (q_lay0.take n).length k = 0; rw [t1]; exact h2 k) (fun k => by show R (q_lay0.take n).length k = none; rw [t1]; exact h3 k)]
  show q_K M (I, J, R, q_lay0.take n ++ [(ci, 0)]) _ _ _ lv (.ref (q_lay0.take n).length :: st) Q
  rw [t2, t1]
  exact kk
theorem q_mka {t N : Nat} {atype : ArrayType} {x : Int32} (hd : decode M.1.2.1 pc = .ok (.newarray atype, 2)) (hn : n < 1000) (hl : q_lay0[n]? = some (t, N)) (ht : (t = 20 ∧ newarray.typeOf atype = .int) ∨ (t = 21 ∧ newarray.typeOf atype = .long) ∨ (t = 22 ∧ newarray.typeOf atype = .byte) ∨ (t = 23 ∧ newarray.typeOf atype = .boolean))
    (hw : Cond.arrayClass (newarray.typeOf atype) ∈ q_gt) (hN : x.toInt = (N : Int)) (hN2 : Nat.ble N 60000000 = true) (h1 : ∀ k, I n k = 0) (h2 : ∀ k, J n k = 0) (h3 : ∀ k, R n k = none) {kc' ks' : Nat} (e1 : kc + 1 = kc') (e2 : ks + N = ks')
    (hcells : Nat.ble kc' M.2.2.2.1 = true ∧ Nat.ble ks' M.2.2.2.2 = true) (kk : q_K M (q_z I J R (n + 1)) kc' ks' (pc + 2) lv (.ref n :: st) Q) : q_K M (q_z I J R n) kc ks pc lv (.int x :: st) Q := by
  subst e1; subst e2
  obtain ⟨t1, t2⟩ := q_take hl
  refine q_newa (t := t) hd (by show (q_lay0.take n).length < 1000; rw [t1]; exact hn) ht hw hN (Nat.le_of_ble_eq_true hN2) ⟨Nat.le_of_ble_eq_true hcells.1, Nat.le_of_ble_eq_true hcells.2⟩ ?_
  rw [q_new_app (fun k => by show I (q_lay0.take n).length k = 0; rw [t1]; exact h1 k) (fun k => by show J (q_lay0.take n).length k = 0; rw [t1]; exact h2 k) (fun k => by show R (q_lay0.take n).length k = none; rw [t1]; exact h3 k)]
  show q_K M (I, J, R, q_lay0.take n ++ [(t, N)]) _ _ _ lv (.ref (q_lay0.take n).length :: st) Q
  rw [t2, t1]
  exact kk
theorem q_mkA {N idx : Nat} {x : Int32} (hd : decode M.1.2.1 pc = .ok (.anewarray idx, 3)) (hn : n < 1000) (hl : q_lay0[n]? = some (24, N)) (hcl : Cond.classLink M.1.1.cls idx "WhyNot$Tree" ∈ q_gt) (hN : x.toInt = (N : Int)) (hN2 : Nat.ble N 60000000 = true) (h1 : ∀ k, I n k = 0) (h2 : ∀ k, J n k = 0) (h3 : ∀ k, R n k = none) {kc' ks' : Nat} (e1 : kc + 1 = kc') (e2 : ks + N = ks')
    (hcells : Nat.ble kc' M.2.2.2.1 = true ∧ Nat.ble ks' M.2.2.2.2 = true) (kk : q_K M (q_z I J R (n + 1)) kc' ks' (pc + 3) lv (.ref n :: st) Q) : q_K M (q_z I J R n) kc ks pc lv (.int x :: st) Q := by
  subst e1; subst e2
  obtain ⟨t1, t2⟩ := q_take hl
  refine q_anew hd (by show (q_lay0.take n).length < 1000; rw [t1]; exact hn) hcl hN (Nat.le_of_ble_eq_true hN2) ⟨Nat.le_of_ble_eq_true hcells.1, Nat.le_of_ble_eq_true hcells.2⟩ ?_
  rw [q_new_app (fun k => by show I (q_lay0.take n).length k = 0; rw [t1]; exact h1 k) (fun k => by show J (q_lay0.take n).length k = 0; rw [t1]; exact h2 k) (fun k => by show R (q_lay0.take n).length k = none; rw [t1]; exact h3 k)]
  show q_K M (I, J, R, q_lay0.take n ++ [(24, N)]) _ _ _ lv (.ref (q_lay0.take n).length :: st) Q
  rw [t2, t1]
  exact kk
theorem q_endv {σ : q_S} (hd : decode M.1.2.1 pc = .ok (.return_, 1)) (hr : M.1.2.2.2 = none) (hk : Nat.ble kc M.2.2.2.1 = true ∧ Nat.ble ks M.2.2.2.2 = true) (hq : Q0 σ none) : q_K M σ kc ks pc lv [] (q_fin M Q0) := q_return hd hr ⟨Nat.le_of_ble_eq_true hk.1, Nat.le_of_ble_eq_true hk.2⟩ hq
theorem q_obj {σ : q_S} {i idx : Nat} (hd : decode M.1.2.1 pc = .ok (.invokespecial idx, 3)) (hl : Cond.methodLink M.1.1.cls idx Lib.objectInit ∈ q_gt) (hroom : Nat.ble 1 M.2.1 = true ∧ Nat.ble 20 M.2.2.1 = true) (hrest : Nat.ble (rest.map fun v => v.category).sum 8 = true) (k : q_K M σ kc ks (pc + 3) lv rest Q) : q_K M σ kc ks pc lv (.ref i :: rest) Q :=
  q_objInit hd hl q_oi1 q_oi2 ⟨Nat.le_of_ble_eq_true hroom.1, Nat.le_of_ble_eq_true hroom.2⟩ (q_r8 hrest) k
end QM
