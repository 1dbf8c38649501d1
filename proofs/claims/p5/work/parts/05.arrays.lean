/-! THE ABSTRACT MACHINE, third part: arrays, statics, ends, switches, constants. -/
def q_in (x : Int32) (n : Nat) : Prop := 0 ≤ x.toInt ∧ x.toInt < n
theorem q_in_v {x : Int32} {n : Nat} (h : q_in x n) : vp_in x n := vp_in_iff.mpr h
theorem q_cl_of {x : Int32} {j : Nat} (h : x.toInt = (j : Int)) : x.toNatClampNeg = j := by show x.toInt.toNat = j; omega
theorem q_ix {x : Int32} {j n : Nat} (h : x.toInt = (j : Int)) (hj : j < n) : vp_in x n := vp_in_iff.mpr ⟨by omega, by omega⟩
theorem q_tys_at (ε : q_E) : (q_tys ε)[0]? = some (ε.2.1 0, .int) ∧ (q_tys ε)[1]? = some (ε.2.1 1, .long) ∧ (q_tys ε)[2]? = some (ε.2.1 2, .byte) ∧ (q_tys ε)[3]? = some (ε.2.1 3, .boolean) ∧ (q_tys ε)[4]? = some (ε.2.1 4, .object "WhyNot$Tree") := ⟨rfl, rfl, rfl, rfl, rfl⟩
section QA
variable {M : q_M} {σ : q_S} {kc ks pc : Nat} {lv : List (Nat × Value)} {st : List Value} {Q : q_F} {Q0 : q_P}
theorem q_iald {i n : Nat} {x : Int32} (hd : decode M.1.2.1 pc = .ok (.iaload, 1)) (hi : σ.2.2.2[i]? = some (20, n)) {j : Nat} (hx : x.toInt = (j : Int)) (hj : j < n) (kk : q_K M σ kc ks (pc + 1) lv (.int (σ.1 i j) :: st) Q) : q_K M σ kc ks pc lv (.int x :: .ref i :: st) Q := by
  intro p l ε e s m args below meth c H locs ls A C hA hW hS hl
  refine va_iald C.1 C.2.1 C.2.2.2.2.2.2.2.2.1.1 (q_one (hW.at hi (by simp))) 0 0 rfl (q_tys_at ε).1 (q_ix hx hj) hd ?_
  rw [q_cl_of hx]
  exact kk p l ε e s m args below meth c H locs ls A C hA hW hS hl
theorem q_lald {i n : Nat} {x : Int32} (hd : decode M.1.2.1 pc = .ok (.laload, 1)) (hi : σ.2.2.2[i]? = some (21, n)) {j : Nat} (hx : x.toInt = (j : Int)) (hj : j < n) (kk : q_K M σ kc ks (pc + 1) lv (.long (σ.2.1 i j) :: st) Q) : q_K M σ kc ks pc lv (.int x :: .ref i :: st) Q := by
  intro p l ε e s m args below meth c H locs ls A C hA hW hS hl
  refine va_lald C.1 C.2.1 C.2.2.2.2.2.2.2.2.1.1 (q_one (hW.at hi (by simp))) 0 1 rfl (q_tys_at ε).2.1 (q_ix hx hj) hd ?_
  rw [q_cl_of hx]
  exact kk p l ε e s m args below meth c H locs ls A C hA hW hS hl
theorem q_bald {i n : Nat} {x : Int32} (hd : decode M.1.2.1 pc = .ok (.baload, 1)) (hi : σ.2.2.2[i]? = some (22, n)) {j : Nat} (hx : x.toInt = (j : Int)) (hj : j < n) (kk : q_K M σ kc ks (pc + 1) lv (.int (σ.1 i j) :: st) Q) : q_K M σ kc ks pc lv (.int x :: .ref i :: st) Q := by
  intro p l ε e s m args below meth c H locs ls A C hA hW hS hl
  refine va_bald C.1 C.2.1 C.2.2.2.2.2.2.2.2.1.1 (q_one (hW.at hi (by simp))) 0 2 rfl (q_tys_at ε).2.2.1 (q_ix hx hj) hd ?_
  rw [q_cl_of hx]
  exact kk p l ε e s m args below meth c H locs ls A C hA hW hS hl
theorem q_zald {i n : Nat} {x : Int32} (hd : decode M.1.2.1 pc = .ok (.baload, 1)) (hi : σ.2.2.2[i]? = some (23, n)) {j : Nat} (hx : x.toInt = (j : Int)) (hj : j < n) (kk : q_K M σ kc ks (pc + 1) lv (.int (σ.1 i j) :: st) Q) : q_K M σ kc ks pc lv (.int x :: .ref i :: st) Q := by
  intro p l ε e s m args below meth c H locs ls A C hA hW hS hl
  refine va_zald C.1 C.2.1 C.2.2.2.2.2.2.2.2.1.1 (q_one (hW.at hi (by simp))) 0 3 rfl (q_tys_at ε).2.2.2.1 (q_ix hx hj) hd ?_
  rw [q_cl_of hx]
  exact kk p l ε e s m args below meth c H locs ls A C hA hW hS hl
theorem q_aald {i n a : Nat} {x : Int32} (hd : decode M.1.2.1 pc = .ok (.aaload, 1)) (hi : σ.2.2.2[i]? = some (24, n)) {j : Nat} (hx : x.toInt = (j : Int)) (hj : j < n) (hr : σ.2.2.1 i j = some a) (kk : q_K M σ kc ks (pc + 1) lv (.ref a :: st) Q) : q_K M σ kc ks pc lv (.int x :: .ref i :: st) Q := by
  intro p l ε e s m args below meth c H locs ls A C hA hW hS hl
  refine va_aldq C.1 C.2.1 C.2.2.2.2.2.2.2.2.1.1 (q_one (hW.at hi (by simp))) 0 4 rfl (q_tys_at ε).2.2.2.2 (q_ix hx hj) hd ?_
  have e1 : (σ.2.2.1 i x.toNatClampNeg).map (q_ad ε) = some (q_ad ε a) := by rw [show σ.2.2.1 i x.toNatClampNeg = some a from by rw [q_cl_of hx]; exact hr]; rfl
  rw [e1]
  exact kk p l ε e s m args below meth c H locs ls A C hA hW hS hl
theorem q_iast {i n : Nat} {x v : Int32} (hd : decode M.1.2.1 pc = .ok (.iastore, 1)) (hi : σ.2.2.2[i]? = some (20, n)) {j : Nat} (hx : x.toInt = (j : Int)) (hj : j < n) (kk : q_K M (q_ui σ i j v) kc ks (pc + 1) lv st Q) : q_K M σ kc ks pc lv (.int v :: .int x :: .ref i :: st) Q := by
  intro p l ε e s m args below meth c H locs ls A C hA hW hS hl
  have ha : H[q_ad ε i]? = some (vp_cell (ε.2.1 0) (n, .inl (σ.1 i))) := hW.at hi (by simp)
  refine W.iast C.1 C.2.1 ha ((C.2.2.2.2.2.2.2.2.1.1.2 0 _ (q_tys_at ε).1).1 n (fun j => .int (σ.1 i j))) (fun q => by cases q) (by show ¬ (x < 0 ∨ (arrV _ _ _).slots.size ≤ _); rw [arrV_size]; exact q_ix hx hj) rfl rfl hd fun H1 e1 z oq => ?_
  obtain ⟨w1, w2⟩ := hW.upd (s' := q_ui σ i j v) (kk := x.toNatClampNeg) hA.1 hS hi (by simp) rfl (q_oth_i ε) (by
    show H1[q_ad ε i]? = some (vp_cell (ε.2.1 0) (n, .inl ((q_ui σ i j v).1 i)))
    rw [e1, vp_cell_i, vp_cell_i, arrV_store]
    congr 2
    funext q
    rw [q_cl_of hx]
    by_cases hq : q = j <;> simp [updV, q_ui, q_up, hq]) z oq
  exact kk p l ε e s m args below meth c H1 _ ls A C hA w1 w2 hl
theorem q_last {i n : Nat} {x : Int32} {v : Int64} (hd : decode M.1.2.1 pc = .ok (.lastore, 1)) (hi : σ.2.2.2[i]? = some (21, n)) {j : Nat} (hx : x.toInt = (j : Int)) (hj : j < n) (kk : q_K M (q_uj σ i j v) kc ks (pc + 1) lv st Q) : q_K M σ kc ks pc lv (.long v :: .int x :: .ref i :: st) Q := by
  intro p l ε e s m args below meth c H locs ls A C hA hW hS hl
  have ha : H[q_ad ε i]? = some (vp_cell (ε.2.1 1) (n, .inr (.inl (σ.2.1 i)))) := hW.at hi (by simp)
  refine W.last C.1 C.2.1 ha ((C.2.2.2.2.2.2.2.2.1.1.2 1 _ (q_tys_at ε).2.1).1 n (fun j => .long (σ.2.1 i j))) (fun q => by cases q) (by show ¬ (x < 0 ∨ (arrV _ _ _).slots.size ≤ _); rw [arrV_size]; exact q_ix hx hj) rfl rfl hd fun H1 e1 z oq => ?_
  obtain ⟨w1, w2⟩ := hW.upd (s' := q_uj σ i j v) (kk := x.toNatClampNeg) hA.1 hS hi (by simp) rfl (q_oth_j ε) (by
    show H1[q_ad ε i]? = some (vp_cell (ε.2.1 1) (n, .inr (.inl ((q_uj σ i j v).2.1 i))))
    rw [e1, vp_cell_l, vp_cell_l, arrV_store]
    congr 2
    funext q
    rw [q_cl_of hx]
    by_cases hq : q = j <;> simp [updV, q_uj, q_up, hq]) z oq
  exact kk p l ε e s m args below meth c H1 _ ls A C hA w1 w2 hl
theorem q_bast {i n : Nat} {x v : Int32} (hd : decode M.1.2.1 pc = .ok (.bastore, 1)) (hi : σ.2.2.2[i]? = some (22, n)) {j : Nat} (hx : x.toInt = (j : Int)) (hj : j < n) (kk : q_K M (q_ui σ i j v.toInt8.toInt32) kc ks (pc + 1) lv st Q) : q_K M σ kc ks pc lv (.int v :: .int x :: .ref i :: st) Q := by
  intro p l ε e s m args below meth c H locs ls A C hA hW hS hl
  have ha : H[q_ad ε i]? = some (vp_cell (ε.2.1 2) (n, .inl (σ.1 i))) := hW.at hi (by simp)
  refine W.bast C.1 C.2.1 ha ((C.2.2.2.2.2.2.2.2.1.1.2 2 _ (q_tys_at ε).2.2.1).1 n (fun j => .int (σ.1 i j))) (fun q => by cases q) (by show ¬ (x < 0 ∨ (arrV _ _ _).slots.size ≤ _); rw [arrV_size]; exact q_ix hx hj) rfl rfl hd fun H1 e1 z oq => ?_
  obtain ⟨w1, w2⟩ := hW.upd (s' := q_ui σ i j v.toInt8.toInt32) (kk := x.toNatClampNeg) hA.1 hS hi (by simp) rfl (q_oth_i ε) (by
    show H1[q_ad ε i]? = some (vp_cell (ε.2.1 2) (n, .inl ((q_ui σ i j v.toInt8.toInt32).1 i)))
    rw [e1, vp_cell_i, vp_cell_i, arrV_store]
    congr 2
    funext q
    rw [q_cl_of hx]
    by_cases hq : q = j
    · simp [updV, q_ui, q_up, hq]
      rfl
    · simp [updV, q_ui, q_up, hq]) z oq
  exact kk p l ε e s m args below meth c H1 _ ls A C hA w1 w2 hl
theorem q_zast {i n : Nat} {x v : Int32} (hd : decode M.1.2.1 pc = .ok (.bastore, 1)) (hi : σ.2.2.2[i]? = some (23, n)) {j : Nat} (hx : x.toInt = (j : Int)) (hj : j < n) (hv : v = 0 ∨ v = 1) (kk : q_K M (q_ui σ i j v) kc ks (pc + 1) lv st Q) : q_K M σ kc ks pc lv (.int v :: .int x :: .ref i :: st) Q := by
  intro p l ε e s m args below meth c H locs ls A C hA hW hS hl
  have ha : H[q_ad ε i]? = some (vp_cell (ε.2.1 3) (n, .inl (σ.1 i))) := hW.at hi (by simp)
  refine W.zast C.1 C.2.1 ha ((C.2.2.2.2.2.2.2.2.1.1.2 3 _ (q_tys_at ε).2.2.2.1).1 n (fun j => .int (σ.1 i j))) (fun q => by cases q) (by show ¬ (x < 0 ∨ (arrV _ _ _).slots.size ≤ _); rw [arrV_size]; exact q_ix hx hj) rfl rfl hd fun H1 e1 z oq => ?_
  obtain ⟨w1, w2⟩ := hW.upd (s' := q_ui σ i j v) (kk := x.toNatClampNeg) hA.1 hS hi (by simp) rfl (q_oth_i ε) (by
    show H1[q_ad ε i]? = some (vp_cell (ε.2.1 3) (n, .inl ((q_ui σ i j v).1 i)))
    have hn : narrow .boolean (.int v) = .int v := by rcases hv with rfl | rfl <;> rfl
    rw [hn] at e1
    rw [e1, vp_cell_i, vp_cell_i, arrV_store]
    congr 2
    funext q
    rw [q_cl_of hx]
    by_cases hq : q = j <;> simp [updV, q_ui, q_up, hq]) z oq
  exact kk p l ε e s m args below meth c H1 _ ls A C hA w1 w2 hl
theorem q_alen {i t n : Nat} (hd : decode M.1.2.1 pc = .ok (.arraylength, 1)) (hi : σ.2.2.2[i]? = some (t, n)) (ht : t = 20 ∨ t = 21 ∨ t = 22 ∨ t = 23) (kk : q_K M σ kc ks (pc + 1) lv (.int (Int32.ofNat n) :: st) Q) : q_K M σ kc ks pc lv (.ref i :: st) Q := by
  intro p l ε e s m args below meth c H locs ls A C hA hW hS hl
  have kz := kk p l ε e s m args below meth c H locs ls A C hA hW hS hl
  have hh := fun hn => q_one (hW.at hi hn)
  rcases ht with rfl | rfl | rfl | rfl
  · exact va_alen C.1 C.2.1 C.2.2.2.2.2.2.2.2.1.1 (hh (by simp)) 0 0 rfl (q_tys_at ε).1 rfl hd kz
  · exact va_alen C.1 C.2.1 C.2.2.2.2.2.2.2.2.1.1 (hh (by simp)) 0 1 rfl (q_tys_at ε).2.1 rfl hd kz
  · exact va_alen C.1 C.2.1 C.2.2.2.2.2.2.2.2.1.1 (hh (by simp)) 0 2 rfl (q_tys_at ε).2.2.1 rfl hd kz
  · exact va_alen C.1 C.2.1 C.2.2.2.2.2.2.2.2.1.1 (hh (by simp)) 0 3 rfl (q_tys_at ε).2.2.2.1 rfl hd kz
/-- the static arrays -/
theorem q_gets0 (hd : decode M.1.2.1 pc = .ok (.getstatic 79, 3)) (hM : M.1.1.cls = "WhyNot$Tree") (kk : q_K M σ kc ks (pc + 3) lv (.ref 1000 :: st) Q) : q_K M σ kc ks pc lv st Q := by
  intro p l ε e s m args below meth c H locs ls A C hA hW hS hl
  obtain ⟨hx, hb, hml, hr, hts, hown, hlk, hnm, hAm, hb0⟩ := id C
  exact va_getsN (own := M.1.1.cls) (ref := "WhyNot") (host := "WhyNot") hx hb (hAm.2.2.2.1.narrow hA.2.2) hS hown (by rw [hM]; exact va_Nw.use rfl hAm.2.2.1.2.1) (fun _ h => h) hd (kk p l ε e s m args below meth c H locs ls A C hA hW hS hl)
theorem q_gets1 (hd : decode M.1.2.1 pc = .ok (.getstatic 287, 3)) (hM : M.1.1.cls = "WhyNot") (hlink : Cond.fieldLink "WhyNot" 287 "WhyNot" "KIND_ARITY" "[I" ∈ q_gt) (kk : q_K M σ kc ks (pc + 3) lv (.ref 1001 :: st) Q) : q_K M σ kc ks pc lv st Q := by
  intro p l ε e s m args below meth c H locs ls A C hA hW hS hl
  obtain ⟨hx, hb, hml, hr, hts, hown, hlk, hnm, hAm, hb0⟩ := id C
  exact va_gets (own := M.1.1.cls) (ref := "WhyNot") hx hb (hAm.2.2.2.2.2.1.narrow hA.2.2) hS hown (by rw [hM]; exact hts _ (q_gt_in hlink)) (fun _ h => h) hd (kk p l ε e s m args below meth c H locs ls A C hA hW hS hl)
theorem q_tald0 {x : Int32} (hd : decode M.1.2.1 pc = .ok (.iaload, 1)) {j : Nat} (hx : x.toInt = (j : Int)) (hj : j < 17) (kk : q_K M σ kc ks (pc + 1) lv (.int (q_arity.getD j 0) :: st) Q) : q_K M σ kc ks pc lv (.int x :: .ref 1000 :: st) Q := by
  intro p l ε e s m args below meth c H locs ls A C hA hW hS hl
  exact va_ti C.1 C.2.1 (C.2.2.2.2.2.2.2.2.1.2.2.2.2.1.narrow hA.2.2) hS (q_ix hx hj) (by rw [q_cl_of hx]; rfl) hd (kk p l ε e s m args below meth c H locs ls A C hA hW hS hl)
theorem q_tald1 {x : Int32} (hd : decode M.1.2.1 pc = .ok (.iaload, 1)) {j : Nat} (hx : x.toInt = (j : Int)) (hj : j < 6) (kk : q_K M σ kc ks (pc + 1) lv (.int (q_karity.getD j 0) :: st) Q) : q_K M σ kc ks pc lv (.int x :: .ref 1001 :: st) Q := by
  intro p l ε e s m args below meth c H locs ls A C hA hW hS hl
  exact va_ti C.1 C.2.1 (C.2.2.2.2.2.2.2.2.1.2.2.2.2.2.2.1.narrow hA.2.2) hS (q_ix hx hj) (by rw [q_cl_of hx]; rfl) hd (kk p l ε e s m args below meth c H locs ls A C hA hW hS hl)
theorem q_tlen0 (hd : decode M.1.2.1 pc = .ok (.arraylength, 1)) (kk : q_K M σ kc ks (pc + 1) lv (.int 17 :: st) Q) : q_K M σ kc ks pc lv (.ref 1000 :: st) Q := by
  intro p l ε e s m args below meth c H locs ls A C hA hW hS hl
  exact va_tlen C.1 C.2.1 (C.2.2.2.2.2.2.2.2.1.2.2.2.2.1.narrow hA.2.2) hS rfl hd (kk p l ε e s m args below meth c H locs ls A C hA hW hS hl)
theorem q_tlen1 (hd : decode M.1.2.1 pc = .ok (.arraylength, 1)) (kk : q_K M σ kc ks (pc + 1) lv (.int 6 :: st) Q) : q_K M σ kc ks pc lv (.ref 1001 :: st) Q := by
  intro p l ε e s m args below meth c H locs ls A C hA hW hS hl
  exact va_tlen C.1 C.2.1 (C.2.2.2.2.2.2.2.2.1.2.2.2.2.2.2.1.narrow hA.2.2) hS rfl hd (kk p l ε e s m args below meth c H locs ls A C hA hW hS hl)
/-- a method's end -/
theorem q_end {ε : q_E} {s : State} {H : Heap} {locs : List Loc} {a : Array Value} {r : Option Value} {A : Nat → Prop} (hA : q_sees ε σ A) (hW : q_W ε σ H) (hS : va_S A s.heap H locs) (hq : Q0 σ r) : ∀ t : State, t.heap = H → s.WarmedH t.vm → q_Qc ε A Q0 a s (.returned (r.map (q_c ε))) t := by
  intro t ht _
  rw [← ht] at hW hS
  exact ⟨⟨σ, r, rfl, hq, hW, hA⟩, hS.1, hS.2.1⟩
theorem q_ireturn {x : Int32} (hd : decode M.1.2.1 pc = .ok (.ireturn, 1)) (hr : M.1.2.2.2 = some .int) (hk : kc ≤ M.2.2.2.1 ∧ ks ≤ M.2.2.2.2) (hq : Q0 σ (some (.int x))) : q_K M σ kc ks pc lv [.int x] (q_fin M Q0) := by
  intro p l ε e s m args below meth c H locs ls A C hA hW hS hl
  exact W.widen hk.1 hk.2 (W.iret C.1 C.2.1 (C.2.2.2.1.trans hr) (q_end hA.1 hW hS hq) hS.2.2 hd C.2.2.2.2.2.2.1)
theorem q_zreturn {x : Int32} (hd : decode M.1.2.1 pc = .ok (.ireturn, 1)) (hr : M.1.2.2.2 = some .boolean) (hx : x = 0 ∨ x = 1) (hk : kc ≤ M.2.2.2.1 ∧ ks ≤ M.2.2.2.2) (hq : Q0 σ (some (.int x))) : q_K M σ kc ks pc lv [.int x] (q_fin M Q0) := by
  intro p l ε e s m args below meth c H locs ls A C hA hW hS hl
  exact W.widen hk.1 hk.2 (W.zret C.1 C.2.1 (C.2.2.2.1.trans hr) (by rcases hx with rfl | rfl <;> rfl) (q_end hA.1 hW hS hq) hS.2.2 hd C.2.2.2.2.2.2.1)
theorem q_lreturn {x : Int64} (hd : decode M.1.2.1 pc = .ok (.lreturn, 1)) (hr : M.1.2.2.2 = some .long) (hk : kc ≤ M.2.2.2.1 ∧ ks ≤ M.2.2.2.2) (hq : Q0 σ (some (.long x))) : q_K M σ kc ks pc lv [.long x] (q_fin M Q0) := by
  intro p l ε e s m args below meth c H locs ls A C hA hW hS hl
  exact W.widen hk.1 hk.2 (W.lret C.1 C.2.1 (C.2.2.2.1.trans hr) (q_end hA.1 hW hS hq) hS.2.2 hd C.2.2.2.2.2.2.1)
theorem q_return (hd : decode M.1.2.1 pc = .ok (.return_, 1)) (hr : M.1.2.2.2 = none) (hk : kc ≤ M.2.2.2.1 ∧ ks ≤ M.2.2.2.2) (hq : Q0 σ none) : q_K M σ kc ks pc lv [] (q_fin M Q0) := by
  intro p l ε e s m args below meth c H locs ls A C hA hW hS hl
  exact W.widen hk.1 hk.2 (W.vret C.1 C.2.1 (C.2.2.2.1.trans hr) (q_end (r := none) hA.1 hW hS hq) hS.2.2 hd C.2.2.2.2.2.2.1)
theorem q_lcmp {x y : Int64} (hd : decode M.1.2.1 pc = .ok (.lcmp, 1)) (k : q_K M σ kc ks (pc + 1) lv (.int (lg_cmp x y) :: st) Q) : q_K M σ kc ks pc lv (.long y :: .long x :: st) Q := by
  intro p l ε e s m args below meth c H locs ls A C hA hW hS hl
  exact W.lcmp C.1 C.2.1 hd (k p l ε e s m args below meth c H locs ls A C hA hW hS hl)
theorem q_ldc {idx : Nat} {v : Int32} (hd : decode M.1.2.1 pc = .ok (.ldc idx, 2)) (hc : Cond.constant M.1.1.cls idx v ∈ q_gt) (k : q_K M σ kc ks (pc + 2) lv (.int v :: st) Q) : q_K M σ kc ks pc lv st Q := by
  intro p l ε e s m args below meth c H locs ls A C hA hW hS hl
  exact lv_ldc C.1 C.2.1 C.2.2.2.2.2.1 (C.2.2.2.2.1 _ (q_gt_in hc)) hd (k p l ε e s m args below meth c H locs ls A C hA hW hS hl)
theorem q_ldcw {idx : Nat} {v : Int32} (hd : decode M.1.2.1 pc = .ok (.ldc_w idx, 3)) (hc : Cond.constant M.1.1.cls idx v ∈ q_gt) (k : q_K M σ kc ks (pc + 3) lv (.int v :: st) Q) : q_K M σ kc ks pc lv st Q := by
  intro p l ε e s m args below meth c H locs ls A C hA hW hS hl
  exact lv_ldcw C.1 C.2.1 C.2.2.2.2.2.1 (C.2.2.2.2.1 _ (q_gt_in hc)) hd (k p l ε e s m args below meth c H locs ls A C hA hW hS hl)
theorem q_ldc2 {idx : Nat} {v : Int64} (hd : decode M.1.2.1 pc = .ok (.ldc2_w idx, 3)) (hc : Cond.constantLong M.1.1.cls idx v ∈ q_gt) (k : q_K M σ kc ks (pc + 3) lv (.long v :: st) Q) : q_K M σ kc ks pc lv st Q := by
  intro p l ε e s m args below meth c H locs ls A C hA hW hS hl
  exact lv_ldc2 C.1 C.2.1 C.2.2.2.2.2.1 (C.2.2.2.2.1 _ (q_gt_in hc)) hd (k p l ε e s m args below meth c H locs ls A C hA hW hS hl)
/-- a switch: its targets by their numbers -/
theorem q_table {dflt lo hi : Int} {offs : Array Int} {len : Nat} {x : Int32} (tgs : List Nat) (td : Nat) (hd : decode M.1.2.1 pc = .ok (.tableswitch dflt lo hi offs, len)) (hn : hi = lo + (tgs.length : Int) - 1) (ho : ∀ (j t : Nat), tgs[j]? = some t → ∃ off, offs[j]? = some off ∧ (pc : Int) + off = (t : Int)) (ht : (pc : Int) + dflt = (td : Int))
    (kt : ∀ (j t : Nat), tgs[j]? = some t → x.toInt = lo + (j : Int) → q_K M σ kc ks t lv st Q) (kd : (x.toInt < lo ∨ hi < x.toInt) → q_K M σ kc ks td lv st Q) : q_K M σ kc ks pc lv (.int x :: st) Q := by
  intro p l ε e s m args below meth c H locs ls A C hA hW hS hl
  by_cases h : x.toInt < lo ∨ hi < x.toInt
  · exact lv_tableOut C.1 C.2.1 hd h ht (kd h p l ε e s m args below meth c H locs ls A C hA hW hS hl)
  · have h1 : ¬ x.toInt < lo := fun q => h (Or.inl q)
    have h2 : ¬ hi < x.toInt := fun q => h (Or.inr q)
    have hj : (x.toInt - lo).toNat < tgs.length := by omega
    obtain ⟨off, o1, o2⟩ := ho _ _ (List.getElem?_eq_getElem hj)
    exact lv_tableIn C.1 C.2.1 hd h1 h2 o1 o2 (kt _ _ (List.getElem?_eq_getElem hj) (by omega) p l ε e s m args below meth c H locs ls A C hA hW hS hl)
end QA
