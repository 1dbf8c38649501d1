/-! THE ABSTRACT MACHINE, fifth part: new cells, arrays of references, System.arraycopy, Math.min. -/
def q_new (s : q_S) (t : Nat × Nat) : q_S := (fun a b => if a = s.2.2.2.length then 0 else s.1 a b, fun a b => if a = s.2.2.2.length then 0 else s.2.1 a b, fun a b => if a = s.2.2.2.length then none else s.2.2.1 a b, s.2.2.2 ++ [t])
def q_def : FieldType → Bool
  | .int => true
  | .boolean => true
  | .long => true
  | .object _ => true
  | .array _ => true
  | _ => false
theorem q_defok : ∀ c, c < 12 → ∀ k, k < q_N c → q_def (q_ty c k) = true := by decide +kernel
theorem q_new_lay (s : q_S) (t : Nat × Nat) : (q_new s t).2.2.2 = s.2.2.2 ++ [t] := rfl
theorem q_W.new {ε : q_E} {s : q_S} {H0 H H1 : Heap} {locs : List Loc} {A : Nat → Prop} {t : Nat × Nat} (hW : q_W ε s H) (hA : q_sees ε s A) (h2 : ∀ q, H0.size ≤ q → A q) (hS : va_S A H0 H locs) (hlen : s.2.2.2.length < 1000)
    (hc : va_at ε.1 vwCl (H.size, q_cell ε (q_new s t) s.2.2.2.length t) H1) (z : H1.size = H.size + 1) (oq : ∀ q : Nat, q < H.size → H1[q]? = H[q]?) :
    q_W ε (q_new s t) H1 ∧ va_S A H0 H1 locs ∧ q_ad ε s.2.2.2.length = H.size ∧ q_sees ε (q_new s t) A := by
  have hsz := hW.1
  have h3 := hS.1
  refine ⟨⟨by rw [z, hsz, q_new_lay]; simp; omega, by rw [q_new_lay]; simp; omega, fun j u hu hu5 => ?_⟩, ⟨Nat.le_trans hS.1 (by omega), fun q h1 h2 => (oq q (Nat.lt_of_lt_of_le h1 hS.1)).trans (hS.2.1 q h1 h2), hS.2.2⟩, by rw [q_ad_lt hlen]; exact hsz.symm, fun j u hu hu5 => ?_⟩
  · rw [q_new_lay] at hu
    by_cases hj : j < s.2.2.2.length
    · rw [List.getElem?_append_left hj] at hu
      rw [q_cell_eq (s := s) (fun b => if_neg (by omega)) (fun b => if_neg (by omega)) (fun b => if_neg (by omega))]
      exact (hW.2.2 j u hu hu5).kept (oq _ (by show ε.2.2.1 + j < _; omega))
    · rw [List.getElem?_append_right (by omega)] at hu
      have hj2 : j = s.2.2.2.length := by
        have := (List.getElem?_eq_some_iff.mp hu).1
        simp at this
        omega
      subst hj2
      rw [Nat.sub_self] at hu
      cases hu
      rw [← hsz]
      exact hc
  · rw [q_new_lay] at hu
    by_cases hj : j < s.2.2.2.length
    · rw [List.getElem?_append_left hj] at hu
      exact hA j u hu hu5
    · exact h2 _ (by omega)
section QN
variable {M : q_M} {σ : q_S} {kc ks pc : Nat} {lv : List (Nat × Value)} {st : List Value} {Q : q_F}
theorem q_newo {ci idx : Nat} (hd : decode M.1.2.1 pc = .ok (.new idx, 3)) (hc : ci < 12) (hlen : σ.2.2.2.length < 1000) (hcl : Cond.classLink M.1.1.cls idx (q_R ci) ∈ q_gt) (hin : Cond.instantiable (q_R ci) (q_N ci) ∈ q_gt) (hini : Cond.initialized (q_R ci) ∈ q_gt)
    (hcells : kc + 1 ≤ M.2.2.2.1 ∧ ks + q_N ci ≤ M.2.2.2.2) (kk : q_K M (q_new σ (ci, 0)) (kc + 1) (ks + q_N ci) (pc + 3) lv (.ref σ.2.2.2.length :: st) Q) : q_K M σ kc ks pc lv st Q := by
  intro p l ε e s m args below meth c H locs ls A C hA hW hS hl
  obtain ⟨hx, hb, hml, hr, hts, hown, hlk, hnm, hAm, hb0⟩ := id C
  have hKn := hAm.1.1 ci _ (q_cl ci hc)
  refine W.newcK hx hb hown (hts _ (q_gt_in hcl)) (hts _ (q_gt_in hin)) (hts _ (q_gt_in hini)) rfl hd hcells.1 hcells.2 hKn.2.1 rfl fun H1 kC hkC e1 z1 o1 => ?_
  obtain ⟨w1, w2, w3, w4⟩ := hW.new (t := (ci, 0)) (H1 := H1) hA.1 hA.2.1 hS hlen (by
    rw [q_cell_o hc]
    refine ⟨_, q_cl ci hc, (u_born (q_ty ci) hts (q_inM M ci hc) hKn hkC e1 (q_tyok ci hc)).to fun k hk => ?_⟩
    have hdf := q_defok ci hc k hk
    show _ = (q_f _ _ _ _).getD k .null
    rw [List.getD_eq_getElem?_getD]
    simp only [q_f, List.getElem?_map, List.getElem?_range hk, Option.map_some, Option.getD_some]
    cases hty : q_ty ci k <;> rw [hty] at hdf <;> simp [q_def] at hdf <;> simp [q_fv, q_new, va_rf, defaultValue]) z1 o1
  have kz := kk p l ε e s m args below meth c H1 locs ls A C ⟨w4, hA.2⟩ w1 w2 hl
  rw [show (Value.ref σ.2.2.2.length :: st).map (q_c ε) = Value.ref H.size :: st.map (q_c ε) by simp [q_c, w3]] at kz
  exact kz
/-- newarray, by its type: 20 int, 21 long, 22 byte, 23 boolean -/
theorem q_newa {t N : Nat} {atype : ArrayType} {x : Int32} (hd : decode M.1.2.1 pc = .ok (.newarray atype, 2)) (hlen : σ.2.2.2.length < 1000) (ht : (t = 20 ∧ newarray.typeOf atype = .int) ∨ (t = 21 ∧ newarray.typeOf atype = .long) ∨ (t = 22 ∧ newarray.typeOf atype = .byte) ∨ (t = 23 ∧ newarray.typeOf atype = .boolean))
    (hw : Cond.arrayClass (newarray.typeOf atype) ∈ q_gt) (hN : x.toInt = (N : Int)) (hN2 : N ≤ 60000000) (hcells : kc + 1 ≤ M.2.2.2.1 ∧ ks + N ≤ M.2.2.2.2)
    (kk : q_K M (q_new σ (t, N)) (kc + 1) (ks + N) (pc + 2) lv (.ref σ.2.2.2.length :: st) Q) : q_K M σ kc ks pc lv (.int x :: st) Q := by
  intro p l ε e s m args below meth c H locs ls A C hA hW hS hl
  obtain ⟨hx, hb, hml, hr, hts, hown, hlk, hnm, hAm, hb0⟩ := id C
  have hx0 : ¬ x < 0 := by
    intro h
    have := Int32.lt_iff_toInt_lt.mp h
    simp at this
    omega
  have hbytes : N * componentBytes (newarray.typeOf atype) ≤ 536870912 := by
    rcases ht with ⟨-, h⟩ | ⟨-, h⟩ | ⟨-, h⟩ | ⟨-, h⟩ <;> rw [h] <;> simp [componentBytes] <;> omega
  refine va_newaK hx hb (hts _ (q_gt_in hw)) rfl hd rfl hx0 (q_cl_of hN) hbytes hcells.1 hcells.2 rfl fun H1 cA e1 z1 o1 hAr hNm => ?_
  have hK2 := hAm.1.2
  obtain ⟨w1, w2, w3, w4⟩ := hW.new (t := (t, N)) (H1 := H1) hA.1 hA.2.1 hS hlen (by
    rcases ht with ⟨rfl, h⟩ | ⟨rfl, h⟩ | ⟨rfl, h⟩ | ⟨rfl, h⟩ <;> rw [h] at e1 hNm
    · have hk := (hK2 0 _ (q_tys_at ε).1).2
      have : cA = ε.2.1 0 := Option.some.inj (hNm.symm.trans hk)
      subst this
      show H1[H.size]? = some (vp_cell (ε.2.1 0) (N, .inl ((q_new σ (20, N)).1 σ.2.2.2.length)))
      rw [e1, vp_cell_i]
      simp [q_new, defaultValue]
    · have hk := (hK2 1 _ (q_tys_at ε).2.1).2
      have : cA = ε.2.1 1 := Option.some.inj (hNm.symm.trans hk)
      subst this
      show H1[H.size]? = some (vp_cell (ε.2.1 1) (N, .inr (.inl ((q_new σ (21, N)).2.1 σ.2.2.2.length))))
      rw [e1, vp_cell_l]
      simp [q_new, defaultValue]
    · have hk := (hK2 2 _ (q_tys_at ε).2.2.1).2
      have : cA = ε.2.1 2 := Option.some.inj (hNm.symm.trans hk)
      subst this
      show H1[H.size]? = some (vp_cell (ε.2.1 2) (N, .inl ((q_new σ (22, N)).1 σ.2.2.2.length)))
      rw [e1, vp_cell_i]
      simp [q_new, defaultValue]
    · have hk := (hK2 3 _ (q_tys_at ε).2.2.2.1).2
      have : cA = ε.2.1 3 := Option.some.inj (hNm.symm.trans hk)
      subst this
      show H1[H.size]? = some (vp_cell (ε.2.1 3) (N, .inl ((q_new σ (23, N)).1 σ.2.2.2.length)))
      rw [e1, vp_cell_i]
      simp [q_new, defaultValue]) z1 o1
  have kz := kk p l ε e s m args below meth c H1 locs ls A C ⟨w4, hA.2⟩ w1 w2 hl
  rw [show (Value.ref σ.2.2.2.length :: st).map (q_c ε) = Value.ref H.size :: st.map (q_c ε) by simp [q_c, w3]] at kz
  exact kz
/-- the array of boxes -/
theorem q_anew {N idx : Nat} {x : Int32} (hd : decode M.1.2.1 pc = .ok (.anewarray idx, 3)) (hlen : σ.2.2.2.length < 1000) (hcl : Cond.classLink M.1.1.cls idx "WhyNot$Tree" ∈ q_gt) (hN : x.toInt = (N : Int)) (hN2 : N ≤ 60000000) (hcells : kc + 1 ≤ M.2.2.2.1 ∧ ks + N ≤ M.2.2.2.2)
    (kk : q_K M (q_new σ (24, N)) (kc + 1) (ks + N) (pc + 3) lv (.ref σ.2.2.2.length :: st) Q) : q_K M σ kc ks pc lv (.int x :: st) Q := by
  intro p l ε e s m args below meth c H locs ls A C hA hW hS hl
  obtain ⟨hx, hb, hml, hr, hts, hown, hlk, hnm, hAm, hb0⟩ := id C
  have hx0 : ¬ x < 0 := by
    intro h
    have := Int32.lt_iff_toInt_lt.mp h
    simp at this
    omega
  have hN' := q_cl_of hN
  refine W.anew hx hb hown (hts _ (q_gt_in hcl)) (va_AO.use hAm.2.1) rfl hd rfl hx0 (by rw [hN']; omega) hcells.1 (by rw [hN']; exact hcells.2) fun cA kA comp h1 h2 h3 h4 => ?_
  rw [hN']
  obtain ⟨kA', comp', k1, k2, k3, k4⟩ := (hAm.1.2 4 _ (q_tys_at ε).2.2.2.2).2
  have hcA : cA = ε.2.1 4 := Option.some.inj (h1.symm.trans k4)
  subst hcA
  obtain ⟨w1, w2, w3, w4⟩ := hW.new (t := (24, N)) (H1 := H.push { cls := ε.2.1 4, slots := Array.replicate N .null, vm := .none }) hA.1 hA.2.1 hS hlen (by
    show (H.push _)[H.size]? = some (vp_cell (ε.2.1 4) (N, .inr (.inr (.inr (.inr fun k => ((q_new σ (24, N)).2.2.1 σ.2.2.2.length k).map (q_ad ε))))))
    rw [vp_cell_q, arrV_new]
    simp [q_new, va_rf]) (by simp) (fun q hq => by rw [Array.getElem?_push, if_neg (Nat.ne_of_lt hq)])
  have kz := kk p l ε e s m args below meth c _ locs ls A C ⟨w4, hA.2⟩ w1 w2 hl
  rw [show (Value.ref σ.2.2.2.length :: st).map (q_c ε) = Value.ref H.size :: st.map (q_c ε) by simp [q_c, w3]] at kz
  exact kz
theorem q_aast {i n a n2 j : Nat} {x : Int32} (hd : decode M.1.2.1 pc = .ok (.aastore, 1)) (hi : σ.2.2.2[i]? = some (24, n)) (ha : σ.2.2.2[a]? = some (9, n2)) (hx : x.toInt = (j : Int)) (hj : j < n) (kk : q_K M (q_ur σ i j (some a)) kc ks (pc + 1) lv st Q) : q_K M σ kc ks pc lv (.ref a :: .int x :: .ref i :: st) Q := by
  intro p l ε e s m args below meth c H locs ls A C hA hW hS hl
  have hK := C.2.2.2.2.2.2.2.2.1.1
  have hcell : H[q_ad ε i]? = some (vp_cell (ε.2.1 4) (n, .inr (.inr (.inr (.inr fun k => (σ.2.2.1 i k).map (q_ad ε)))))) := hW.at hi (by simp)
  obtain ⟨r', hr', cellV, g1, g2, g3, -⟩ := hW.at ha (by simp)
  have hcls := (hK.1 9 (q_R 9, q_T 9, q_N 9) (q_cl 9 (by decide))).2
  obtain ⟨kA, comp, k1, k2, k3, -⟩ := (hK.2 4 _ (q_tys_at ε).2.2.2.2).2
  have hcomp : comp = ε.1.1 9 := Option.some.inj (k3.symm.trans hcls.1)
  subst hcomp
  obtain ⟨kC, hkC, -⟩ := hcls.2
  have hin := q_ix hx hj
  refine W.aast C.1 C.2.1 hcell (fun q h => by cases h) (fun h => by cases h) k1 k2 rfl hkC ⟨fun q => hin (Or.inl q), by show _ < (arrV _ _ _).slots.size; rw [arrV_size, q_cl_of hx]; exact hj⟩ g1 (fun q h => by rw [g3] at h; cases h) (by rw [g2]; exact hkC) (by rw [g2]; exact va_assign hcls) rfl rfl hd fun H1 e1 z oq => ?_
  obtain ⟨w1, w2⟩ := hW.upd (s' := q_ur σ i j (some a)) (kk := x.toNatClampNeg) hA.1 hS hi (by simp) rfl (q_oth_r ε) (by
    show H1[q_ad ε i]? = some (vp_cell (ε.2.1 4) (n, .inr (.inr (.inr (.inr fun k => ((q_ur σ i j (some a)).2.2.1 i k).map (q_ad ε))))))
    rw [e1, vp_cell_q, vp_cell_q, arrV_store]
    congr 2
    funext q
    rw [q_cl_of hx]
    by_cases hq : q = j <;> simp [updV, q_ur, q_up, hq, va_rf]) z oq
  exact kk p l ε e s m args below meth c H1 _ ls A C hA w1 w2 hl
end QN
/-- the cells that are seen -/
def q_vw (ε : q_E) (s : q_S) : va_W := (List.range s.2.2.2.length).filterMap fun i => (s.2.2.2[i]?).bind fun t => if t.1 = 50 then none else some (ε.2.2.1 + i, q_cell ε s i t)
theorem q_vw_mem {ε : q_E} {s : q_S} {x : Nat × va_E} : x ∈ q_vw ε s ↔ ∃ (i : Nat) (t : Nat × Nat), s.2.2.2[i]? = some t ∧ t.1 ≠ 50 ∧ x = (ε.2.2.1 + i, q_cell ε s i t) := by
  unfold q_vw
  rw [List.mem_filterMap]
  constructor
  · rintro ⟨i, -, h⟩
    cases hi : s.2.2.2[i]? with
    | none => rw [hi] at h; cases h
    | some t =>
      rw [hi] at h
      by_cases h5 : t.1 = 50
      · simp [h5] at h
      · simp [h5] at h
        exact ⟨i, t, hi, h5, h.symm⟩
  · rintro ⟨i, t, hi, h5, rfl⟩
    exact ⟨i, List.mem_range.mpr (List.getElem?_eq_some_iff.mp hi).1, by simp [hi, h5]⟩
theorem q_vw_P {ε : q_E} {s : q_S} {H : Heap} (hW : q_W ε s H) : va_P ε.1 vwCl (q_vw ε s) H := by
  intro k q hk
  obtain ⟨i, t, hi, h5, rfl⟩ := q_vw_mem.mp (List.mem_of_getElem? hk)
  exact hW.2.2 i t hi h5
theorem q_vw_inj {ε : q_E} {s : q_S} : ∀ (i j : Nat) (p q : Nat × va_E), (q_vw ε s)[i]? = some p → (q_vw ε s)[j]? = some q → p.1 = q.1 → i = j := by
  have hp : (q_vw ε s).Pairwise (fun a b => a.1 < b.1) := by
    unfold q_vw
    refine List.Pairwise.filterMap _ (R := fun a b => a < b) ?_ List.pairwise_lt_range
    intro a a' haa b hb b' hb'
    have key : ∀ (x : Nat) (y : Nat × va_E), ((s.2.2.2[x]?).bind fun t => if t.1 = 50 then none else some (ε.2.2.1 + x, q_cell ε s x t)) = some y → y.1 = ε.2.2.1 + x := by
      intro x y h
      cases hx : s.2.2.2[x]? with
      | none => rw [hx] at h; cases h
      | some t =>
        rw [hx] at h
        by_cases h5 : t.1 = 50
        · simp [h5] at h
        · simp [h5] at h
          rw [← h]
    rw [key a b hb, key a' b' hb']
    omega
  rw [List.pairwise_iff_getElem] at hp
  intro i j p q hi hj h
  obtain ⟨li, ei⟩ := List.getElem?_eq_some_iff.mp hi
  obtain ⟨lj, ej⟩ := List.getElem?_eq_some_iff.mp hj
  rcases Nat.lt_trichotomy i j with hlt | heq | hgt
  · have := hp i j li lj hlt
    rw [ei, ej] at this
    omega
  · exact heq
  · have := hp j i lj li hgt
    rw [ei, ej] at this
    omega
theorem q_vw_D {ε : q_E} {s : q_S} {A : Nat → Prop} (hA : q_sees ε s A) : va_D A (q_vw ε s) := by
  refine ⟨q_vw_inj, fun k q hk => ?_⟩
  obtain ⟨i, t, hi, h5, rfl⟩ := q_vw_mem.mp (List.mem_of_getElem? hk)
  exact hA i t hi h5
theorem q_vw_set {ε : q_E} {s s' : q_S} {H : Heap} {j pj : Nat} {t : Nat × Nat} (hj : s.2.2.2[j]? = some t) (h5 : t.1 ≠ 50) (hp : (q_vw ε s)[pj]? = some (ε.2.2.1 + j, q_cell ε s j t)) (hlay : s'.2.2.2 = s.2.2.2) (hoth : ∀ i u, i ≠ j → q_cell ε s' i u = q_cell ε s i u)
    (hP : va_P ε.1 vwCl ((q_vw ε s).set pj (ε.2.2.1 + j, q_cell ε s' j t)) H) : ∀ (i : Nat) (u : Nat × Nat), s'.2.2.2[i]? = some u → u.1 ≠ 50 → va_at ε.1 vwCl (ε.2.2.1 + i, q_cell ε s' i u) H := by
  intro i u hi hu
  rw [hlay] at hi
  by_cases hij : i = j
  · subst hij
    rw [hj] at hi
    cases hi
    exact hP pj _ (List.getElem?_set_self (List.getElem?_eq_some_iff.mp hp).1)
  · obtain ⟨k, hk⟩ := List.getElem?_of_mem (q_vw_mem.mpr ⟨i, u, hi, hu, rfl⟩ : (ε.2.2.1 + i, q_cell ε s i u) ∈ q_vw ε s)
    have hne : pj ≠ k := by
      intro e
      subst e
      rw [hp] at hk
      have := congrArg Prod.fst (Option.some.inj hk)
      exact hij (by have h9 : ε.2.2.1 + j = ε.2.2.1 + i := this; omega)
    rw [hoth i u hij]
    exact hP k _ (by rw [List.getElem?_set_ne hne]; exact hk)
def q_cpI (σ : q_S) (i j a b k : Nat) : q_S := (fun c x => if c = j ∧ b ≤ x ∧ x < b + k then σ.1 i (a + (x - b)) else σ.1 c x, σ.2)
def q_cpJ (σ : q_S) (i j a b k : Nat) : q_S := (σ.1, fun c x => if c = j ∧ b ≤ x ∧ x < b + k then σ.2.1 i (a + (x - b)) else σ.2.1 c x, σ.2.2)
section QX
variable {M : q_M} {σ : q_S} {ks pc : Nat} {lv : List (Nat × Value)} {rest : List Value} {Q : q_F}
theorem q_nneg {x : Int32} {n : Nat} (h : x.toInt = (n : Int)) : ¬ x < 0 := by
  intro h1
  have := Int32.lt_iff_toInt_lt.mp h1
  simp at this
  omega
theorem q_heap0 {p : Program} {l : Launch} {e : Env} {s : State} {m : MethodId} {args : Array Value} {below : List Frame} {meth : Method} {c : Code} {H : Heap} {locs : List Loc} {T : State} {n : Nat} {A : Nat → Prop} (hS : va_S A s.heap H locs) (hT : T.heap = H) (X : Stand p l e (q_rm M) s m args below meth c T locs 0 n) : H.size = s.heap.size := by
  have h1 := X.heapSize
  have h2 := hS.1
  rw [hT] at h1
  omega
theorem q_copyI {i j n0 n1 a b k idx : Nat} {sp dp n : Int32} (hd : decode M.1.2.1 pc = .ok (.invokestatic idx, 3)) (hl : Cond.methodLink M.1.1.cls idx arraycopyName ∈ q_gt) (h1 : Cond.native arraycopyName ∈ q_gt) (h2 : Cond.static arraycopyName ∈ q_gt) (h3 : Cond.initialized "java/lang/System" ∈ q_gt)
    (hi : σ.2.2.2[i]? = some (20, n0)) (hj : σ.2.2.2[j]? = some (20, n1)) (hsp : sp.toInt = (a : Int)) (hdp : dp.toInt = (b : Int)) (hn : n.toInt = (k : Int)) (h4 : a + k ≤ n0) (h5 : b + k ≤ n1) (hroom : 1 ≤ M.2.1 ∧ 8 + (nativeFrameWords "java/lang/System" "arraycopy" 5 + 11) ≤ M.2.2.1) (hrest : (rest.map fun v => v.category).sum ≤ 8)
    (kk : q_K M (q_cpI σ i j a b k) 0 ks (pc + 3) lv rest Q) : q_K M σ 0 ks pc lv (.int n :: .int dp :: .ref j :: .int sp :: .ref i :: rest) Q := by
  intro p l ε e s m args below meth c H locs ls A C hA hW hS hl2 T hT X
  obtain ⟨hx, hb, hml, hr, hts, hown, hlk, hnm, hAm, hb0⟩ := id C
  have hz := q_heap0 hS hT X
  have hi2 := hW.i hi
  have hj2 := hW.i hj
  obtain ⟨pi, hpi⟩ := List.getElem?_of_mem (q_vw_mem.mpr ⟨i, _, hi, by simp, rfl⟩ : (ε.2.2.1 + i, q_cell ε σ i _) ∈ q_vw ε σ)
  obtain ⟨pj, hpj⟩ := List.getElem?_of_mem (q_vw_mem.mpr ⟨j, _, hj, by simp, rfl⟩ : (ε.2.2.1 + j, q_cell ε σ j _) ∈ q_vw ε σ)
  have hrc : ((rest.map (q_c ε)).map fun v => v.category).sum ≤ 8 := by
    have := q_rest8 (m := m) (ls := ls) (st := []) (pc := pc) ε hrest
    omega
  refine va_copyi (D := ε.1) (cl := vwCl) (tys := q_tys ε) (ws := q_vw ε σ) (n0 := n0) (n1 := n1) (f := σ.1 i) (g := σ.1 j) hx hb (by rw [hml]; exact hl2.1.symm) hown (hts _ (q_gt_in hl)) (hts _ (q_gt_in h1)) (hts _ (q_gt_in h2)) (hts _ (q_gt_in h3)) hAm.1 (q_vw_P hW) (q_vw_D hA.1) hS pi pj 0 0
    (by rw [hpi, ← hi2.2]; rfl) (by rw [hpj, ← hj2.2]; rfl) (q_tys_at ε).1 (q_tys_at ε).1 rfl (q_nneg hsp) (q_nneg hdp) (q_nneg hn) (by rw [q_cl_of hsp, q_cl_of hn]; exact h4) (by rw [q_cl_of hdp, q_cl_of hn]; exact h5) (fun _ _ => rfl) hroom.1
    (Nat.le_trans (Nat.add_le_add_right hrc _) hroom.2) hd (fun H1 locs1 hP1 hD1 hS1 => ?_) T hT X
  rw [q_cl_of hsp, q_cl_of hdp, q_cl_of hn] at hP1
  intro T1 hT1 X1
  have hz1 := q_heap0 hS1 hT1 X1
  have hset := q_vw_set (ε := ε) (s := σ) (s' := q_cpI σ i j a b k) (H := H1) hj (by simp) hpj rfl (fun j' u hj' => q_cell_eq (fun x => by simp [q_cpI, hj']) (fun _ => rfl) (fun _ => rfl))
  have hcell : q_cell ε (q_cpI σ i j a b k) j (20, n1) = .inl (ε.2.1 0, n1, .inl (va_cpy (σ.1 i) (σ.1 j) a b k)) := by
    show Sum.inl (ε.2.1 0, n1, Sum.inl ((q_cpI σ i j a b k).1 j)) = _
    congr 4
    funext x
    simp [q_cpI, va_cpy]
  rw [hcell, ← hj2.2] at hset
  exact kk p l ε e s m args below meth c H1 locs1 ls A C hA ⟨by rw [hz1, ← hz]; exact hW.1, hW.2.1, hset hP1⟩ hS1 hl2 T1 hT1 X1
theorem q_copyJ {i j n0 n1 a b k idx : Nat} {sp dp n : Int32} (hd : decode M.1.2.1 pc = .ok (.invokestatic idx, 3)) (hl : Cond.methodLink M.1.1.cls idx arraycopyName ∈ q_gt) (h1 : Cond.native arraycopyName ∈ q_gt) (h2 : Cond.static arraycopyName ∈ q_gt) (h3 : Cond.initialized "java/lang/System" ∈ q_gt)
    (hi : σ.2.2.2[i]? = some (21, n0)) (hj : σ.2.2.2[j]? = some (21, n1)) (hsp : sp.toInt = (a : Int)) (hdp : dp.toInt = (b : Int)) (hn : n.toInt = (k : Int)) (h4 : a + k ≤ n0) (h5 : b + k ≤ n1) (hroom : 1 ≤ M.2.1 ∧ 8 + (nativeFrameWords "java/lang/System" "arraycopy" 5 + 11) ≤ M.2.2.1) (hrest : (rest.map fun v => v.category).sum ≤ 8)
    (kk : q_K M (q_cpJ σ i j a b k) 0 ks (pc + 3) lv rest Q) : q_K M σ 0 ks pc lv (.int n :: .int dp :: .ref j :: .int sp :: .ref i :: rest) Q := by
  intro p l ε e s m args below meth c H locs ls A C hA hW hS hl2 T hT X
  obtain ⟨hx, hb, hml, hr, hts, hown, hlk, hnm, hAm, hb0⟩ := id C
  have hz := q_heap0 hS hT X
  have hi2 := hW.i hi
  have hj2 := hW.i hj
  obtain ⟨pi, hpi⟩ := List.getElem?_of_mem (q_vw_mem.mpr ⟨i, _, hi, by simp, rfl⟩ : (ε.2.2.1 + i, q_cell ε σ i _) ∈ q_vw ε σ)
  obtain ⟨pj, hpj⟩ := List.getElem?_of_mem (q_vw_mem.mpr ⟨j, _, hj, by simp, rfl⟩ : (ε.2.2.1 + j, q_cell ε σ j _) ∈ q_vw ε σ)
  have hrc : ((rest.map (q_c ε)).map fun v => v.category).sum ≤ 8 := by
    have := q_rest8 (m := m) (ls := ls) (st := []) (pc := pc) ε hrest
    omega
  refine va_copyl (D := ε.1) (cl := vwCl) (tys := q_tys ε) (ws := q_vw ε σ) (n0 := n0) (n1 := n1) (f := σ.2.1 i) (g := σ.2.1 j) hx hb (by rw [hml]; exact hl2.1.symm) hown (hts _ (q_gt_in hl)) (hts _ (q_gt_in h1)) (hts _ (q_gt_in h2)) (hts _ (q_gt_in h3)) hAm.1 (q_vw_P hW) (q_vw_D hA.1) hS pi pj 1 1
    (by rw [hpi, ← hi2.2]; rfl) (by rw [hpj, ← hj2.2]; rfl) (q_tys_at ε).2.1 (q_tys_at ε).2.1 rfl (q_nneg hsp) (q_nneg hdp) (q_nneg hn) (by rw [q_cl_of hsp, q_cl_of hn]; exact h4) (by rw [q_cl_of hdp, q_cl_of hn]; exact h5) (fun _ _ => rfl) hroom.1
    (Nat.le_trans (Nat.add_le_add_right hrc _) hroom.2) hd (fun H1 locs1 hP1 hD1 hS1 => ?_) T hT X
  rw [q_cl_of hsp, q_cl_of hdp, q_cl_of hn] at hP1
  intro T1 hT1 X1
  have hz1 := q_heap0 hS1 hT1 X1
  have hset := q_vw_set (ε := ε) (s := σ) (s' := q_cpJ σ i j a b k) (H := H1) hj (by simp) hpj rfl (fun j' u hj' => q_cell_eq (fun _ => rfl) (fun x => by simp [q_cpJ, hj']) (fun _ => rfl))
  have hcell : q_cell ε (q_cpJ σ i j a b k) j (21, n1) = .inl (ε.2.1 1, n1, .inr (.inl (va_cpy (σ.2.1 i) (σ.2.1 j) a b k))) := by
    show Sum.inl (ε.2.1 1, n1, Sum.inr (Sum.inl ((q_cpJ σ i j a b k).2.1 j))) = _
    congr 5
    funext x
    simp [q_cpJ, va_cpy]
  rw [hcell, ← hj2.2] at hset
  exact kk p l ε e s m args below meth c H1 locs1 ls A C hA ⟨by rw [hz1, ← hz]; exact hW.1, hW.2.1, hset hP1⟩ hS1 hl2 T1 hT1 X1
theorem q_mmin {idx kc : Nat} {x y : Int32} (hd : decode M.1.2.1 pc = .ok (.invokestatic idx, 3)) (hl : Cond.methodLink M.1.1.cls idx Lib.Math.min.name ∈ q_gt) (h1 : Cond.static Lib.Math.min.name ∈ q_gt) (h2 : Cond.initialized "java/lang/Math" ∈ q_gt) (h3 : Cond.code Lib.Math.min.name Lib.Math.min.code 2 (some .int) ∈ q_gt)
    (hroom : 1 ≤ M.2.1 ∧ 21 ≤ M.2.2.1) (hrest : (rest.map fun v => v.category).sum ≤ 8) (hk : kc ≤ M.2.2.2.1 ∧ ks ≤ M.2.2.2.2) (kk : q_K M σ kc ks (pc + 3) lv (.int (if y < x then y else x) :: rest) Q) : q_K M σ kc ks pc lv (.int y :: .int x :: rest) Q := by
  intro p l ε e s m args below meth c H locs ls A C hA hW hS hl2
  obtain ⟨hx, hb, hml, hr, hts, hown, hlk, hnm, hAm, hb0⟩ := id C
  have hrc : ((rest.map (q_c ε)).map fun v => v.category).sum ≤ 8 := by
    have := q_rest8 (m := m) (ls := ls) (st := []) (pc := pc) ε hrest
    omega
  exact va_mmin hx hb (by rw [hml]; exact hl2.1.symm) hown (hts _ (q_gt_in hl)) (hts _ (q_gt_in h1)) (hts _ (q_gt_in h2)) (hts _ (q_gt_in h3)) hroom.1 (Nat.le_trans (Nat.add_le_add_right hrc _) hroom.2) hk.1 hk.2 hd
    (kk p l ε e s m args below meth c H locs ls A C hA hW hS hl2)
end QX
