/-! THE ABSTRACT MACHINE, fourth part: calls, new cells, the JDK's own. -/
/-- what the tables say of a method that is called: its class, code and number of parameters -/
def q_D (M : q_M) (n : Nat) : Prop := Cond.initialized M.1.1.cls ∈ q_gt ∧ Cond.code M.1.1 M.1.2.1 M.1.2.2.1 M.1.2.2.2 ∈ q_gt ∧ (M.1.1.cls ≠ "java/lang/invoke/MethodHandle" ∧ M.1.1.cls ≠ "java/lang/invoke/VarHandle") ∧ (parseMethodDescriptor M.1.1.desc).map (fun d => d.parameters.length) = some n
def q_DV (M : q_M) (n : Nat) : Prop := q_D M n ∧ Cond.instanceMethod M.1.1 ∈ q_gt ∧ Cond.selects M.1.1.cls M.1.1 M.1.1 ∈ q_gt
def q_DS (M : q_M) (n : Nat) : Prop := q_D M n ∧ Cond.static M.1.1 ∈ q_gt
def q_DI (M : q_M) (n : Nat) : Prop := q_D M n ∧ M.1.1.name = "<init>" ∧ Cond.instanceMethod M.1.1 ∈ q_gt
/-- the callee's room fits into the caller's -/
def q_fit (M M2 : q_M) : Prop := M2.2.1 + 1 ≤ M.2.1 ∧ 8 + (M2.1.2.2.1 + 11) + M2.2.2.1 ≤ M.2.2.1
theorem q_goods (_ M2 : q_M) (h : Cond.code M2.1.1 M2.1.2.1 M2.1.2.2.1 M2.1.2.2.2 ∈ q_gt) : GoodIn q_gt (q_ws M2) := by
  have key : ∀ w ∈ q_gt, w ∈ q_gt ∧ ((w.onTables && w.keeps) = true ∨ ∃ ty, w = .arrayClass ty) := fun w hw => ⟨q_gt_in hw, good_of_word (List.mem_filter.mp hw).2⟩
  intro w hw
  rcases List.mem_cons.mp hw with rfl | hw
  · exact key _ h
  · exact key _ hw
theorem q_blind (ε : q_E) (σ : q_S) (as : List Value) : FrameBlind (va_Pc (as.map (q_c ε)) (fun U => q_W ε σ U.heap ∧ q_Am ε U U.heap)) := by
  intro a U g mk h
  exact ⟨h.1, h.2.1, q_Am.same rfl rfl h.2.2⟩
theorem q_AL_sub {ε : q_E} {σ : q_S} {A : Nat → Prop} {s : State} {H : Heap} (hA : q_sees ε σ A) (h2 : ∀ q, s.heap.size ≤ q → A q) (hW : q_W ε σ H) (hS : s.heap.size ≤ H.size) : ∀ q, q_AL ε σ q → A q := by
  intro q h
  by_cases hq : q < ε.2.2.1 + σ.2.2.2.length
  · obtain ⟨i, rfl⟩ : ∃ i, q = ε.2.2.1 + i := ⟨q - ε.2.2.1, by have := h.1; omega⟩
    have hi : i < σ.2.2.2.length := by omega
    exact hA i _ (List.getElem?_eq_getElem hi) (h.2 i _ (List.getElem?_eq_getElem hi) rfl)
  · exact h2 q (by rw [hW.1] at hS; omega)
section QC
variable {M M2 : q_M} {σ : q_S} {kc ks pc : Nat} {lv : List (Nat × Value)} {rest as : List Value} {Q : q_F} {Q2 : q_P}
/-- behind a call -/
theorem q_back {p : Program} {l : Launch} {ε : q_E} {e : Env} {s : State} {m : MethodId} {args : Array Value} {below : List Frame} {meth : Method} {c : Code} {H : Heap} {locs : List Loc} {ls : Array Slot} {mc ms : Nat} {a : Array Value} {st0 : List Value} {QF : State → Prop}
    {A : Nat → Prop} (hA : q_sees ε σ A ∧ (∀ q, s.heap.size ≤ q → A q) ∧ ∀ q, A q → ε.2.2.1 ≤ q) (hW : q_W ε σ H) (hrun : va_Run p l e (q_rm M) s m args below meth c H locs kc ks mc ms (F0 m pc ls st0) (rest.map (q_c ε)) (q_Qc ε (q_AL ε σ) Q2 a) (q_AL ε σ)) (hS : va_S A s.heap H locs)
    (kk : ∀ (s' : q_S) (r : Option Value), Q2 s' r → ∀ (H1 : Heap) (locs1 : List Loc), (q_sees ε s' A ∧ (∀ q, s.heap.size ≤ q → A q) ∧ ∀ q, A q → ε.2.2.1 ≤ q) → q_W ε s' H1 → va_S A s.heap H1 locs1 → W p l e (q_rm M) s m args below meth c H1 locs1 (kc + mc) (ks + ms) QF (F0 m (pc + 3) ls ((r.toList ++ rest).map (q_c ε)))) :
    W p l e (q_rm M) s m args below meth c H locs kc ks QF (F0 m pc ls st0) := by
  have hsub := q_AL_sub hA.1 hA.2.1 hW hS.1
  intro T hT X
  obtain ⟨v, s0, t, T', L, h0, X', hL, e1, e2, ⟨⟨s', r, hv, hq, hw, hse⟩, hz, hkp⟩, stp⟩ := hrun T hT X
  cases hv
  rw [h0] at hz hkp
  have e3 : (r.toList ++ rest).map (q_c ε) = (r.map (q_c ε)).toList ++ rest.map (q_c ε) := by cases r <;> rfl
  have kz := kk s' r hq T'.heap (locs ++ L) ⟨fun i t hi hn => hsub _ (hse i t hi hn), hA.2⟩ (by rw [e1]; exact hw) ⟨Nat.le_trans hS.1 (by rw [e1]; exact hz), fun q h1 h2 => by
      rw [e1, hkp q (Nat.lt_of_lt_of_le h1 hS.1) (fun h => h2 (hsub q h))]
      exact hS.2.1 q h1 h2, fun q hq => by
      rcases List.mem_append.mp hq with h | h
      · exact hS.2.2 q h
      · exact hsub _ (hL q h)⟩
  rw [e3] at kz
  obtain ⟨t2, a1, b1⟩ := kz T' rfl X'
  exact ⟨t2, stp t2 a1, b1⟩
theorem q_stk (ε : q_E) (as : List Value) (i : Nat) : (as.reverse ++ Value.ref i :: rest).map (q_c ε) = (as.map (q_c ε)).reverse ++ Value.ref (q_ad ε i) :: rest.map (q_c ε) := by
  simp [List.map_append, List.map_reverse, q_c]
theorem q_stkS (ε : q_E) (as : List Value) : (as.reverse ++ rest).map (q_c ε) = (as.map (q_c ε)).reverse ++ rest.map (q_c ε) := by
  simp [List.map_append, List.map_reverse]
theorem q_rest8 (ε : q_E) {m : MethodId} {ls : Array Slot} {st : List Value} (h : (rest.map fun v => v.category).sum ≤ 8) : 2 * (F0 m pc ls st).monitorRoom + ((rest.map (q_c ε)).map fun v => v.category).sum ≤ 8 := by
  rw [List.map_map]
  have : ((fun v : Value => v.category) ∘ q_c ε) = fun v => v.category := funext fun v => q_cat ε v
  rw [this]
  show 2 * 0 + _ ≤ 8
  omega
theorem q_callV {i ci n idx : Nat} (hd : decode M.1.2.1 pc = .ok (.invokevirtual idx, 3)) (hM : q_DV M2 as.length) (hl : Cond.methodLink M.1.1.cls idx M2.1.1 ∈ q_gt) (hi : σ.2.2.2[i]? = some (ci, n)) (hc : ci < 12) (hR : q_R ci = M2.1.1.cls)
    (hroom : q_fit M M2) (hrest : (rest.map fun v => v.category).sum ≤ 8) (hcells : kc + M2.2.2.2.1 ≤ M.2.2.2.1 ∧ ks + M2.2.2.2.2 ≤ M.2.2.2.2) (hm : q_met M2 σ (.ref i :: as) Q2)
    (kk : ∀ s' r, Q2 s' r → q_K M s' (kc + M2.2.2.2.1) (ks + M2.2.2.2.2) (pc + 3) lv (r.toList ++ rest) Q) : q_K M σ kc ks pc lv (as.reverse ++ .ref i :: rest) Q := by
  intro p l ε e s m args below meth c H locs ls A C hA hW hS hl2
  obtain ⟨hx, hb, hml, hr, hts, hown, hlk, hnm, hAm, hb0⟩ := id C
  obtain ⟨⟨hini, hcode, hcls, hpar⟩, hin, hsel⟩ := hM
  have ha := hW.at hi (by show ci ≠ 50; omega)
  rw [q_cell_o hc] at ha
  have hrecv := va_recv (q0 := 0) hAm.1 (q_one ha) (q_cl ci hc) rfl
  rw [show (q_R ci, q_T ci, q_N ci).1 = M2.1.1.cls from hR] at hrecv
  rw [q_stk]
  refine q_back (Q2 := Q2) (σ := σ) hA hW (mc := M2.2.2.2.1) (ms := M2.2.2.2.2) (va_runV (As := as.map (q_c ε)) ⟨hx, hb, hml, hown, hts⟩ (hm l ε)
    ⟨callB_of as.length hts (q_goods M M2 hcode) rfl rfl rfl (hts _ (q_gt_in hini)) (hts _ (q_gt_in hl)) ⟨hcls.1, hcls.2, hpar⟩ hroom, hts _ (q_gt_in hin), hts _ (q_gt_in hsel)⟩
    ⟨q_blind ε σ _, hrecv, fun U hU hW' => ⟨rfl, by rw [hU]; exact hW, hAm.to hW' hS hA.2.2 hU⟩⟩ rfl (by simp) hl2.1 rfl (q_rest8 ε hrest) hd hcells) hS
    (fun s' r hq H1 locs1 w0 w1 w2 => kk s' r hq p l ε e s m args below meth c H1 locs1 ls A C w0 w1 w2 hl2)
theorem q_callS {idx : Nat} (hd : decode M.1.2.1 pc = .ok (.invokestatic idx, 3)) (hM : q_DS M2 as.length) (hl : Cond.methodLink M.1.1.cls idx M2.1.1 ∈ q_gt)
    (hroom : q_fit M M2) (hrest : (rest.map fun v => v.category).sum ≤ 8) (hcells : kc + M2.2.2.2.1 ≤ M.2.2.2.1 ∧ ks + M2.2.2.2.2 ≤ M.2.2.2.2) (hm : q_met M2 σ as Q2)
    (kk : ∀ s' r, Q2 s' r → q_K M s' (kc + M2.2.2.2.1) (ks + M2.2.2.2.2) (pc + 3) lv (r.toList ++ rest) Q) : q_K M σ kc ks pc lv (as.reverse ++ rest) Q := by
  intro p l ε e s m args below meth c H locs ls A C hA hW hS hl2
  obtain ⟨hx, hb, hml, hr, hts, hown, hlk, hnm, hAm, hb0⟩ := id C
  obtain ⟨⟨hini, hcode, hcls, hpar⟩, hstt⟩ := hM
  rw [q_stkS]
  refine q_back (Q2 := Q2) (σ := σ) hA hW (mc := M2.2.2.2.1) (ms := M2.2.2.2.2) (va_runS (As := as.map (q_c ε)) ⟨hx, hb, hml, hown, hts⟩ (hm l ε)
    ⟨callB_of as.length hts (q_goods M M2 hcode) rfl rfl rfl (hts _ (q_gt_in hini)) (hts _ (q_gt_in hl)) ⟨hcls.1, hcls.2, hpar⟩ hroom, hts _ (q_gt_in hstt)⟩
    ⟨q_blind ε σ _, fun U hU hW' => ⟨rfl, by rw [hU]; exact hW, hAm.to hW' hS hA.2.2 hU⟩⟩ rfl (by simp) hl2.1 rfl (q_rest8 ε hrest) hd hcells) hS
    (fun s' r hq H1 locs1 w0 w1 w2 => kk s' r hq p l ε e s m args below meth c H1 locs1 ls A C w0 w1 w2 hl2)
/-- a static method of a nest mate -/
theorem q_callSN {idx : Nat} {host : String} (hd : decode M.1.2.1 pc = .ok (.invokestatic idx, 3)) (hM : q_DS M2 as.length) (hl : (M.1.1.cls, idx, M2.1.1, host) ∈ q_nests)
    (hroom : q_fit M M2) (hrest : (rest.map fun v => v.category).sum ≤ 8) (hcells : kc + M2.2.2.2.1 ≤ M.2.2.2.1 ∧ ks + M2.2.2.2.2 ≤ M.2.2.2.2) (hm : q_met M2 σ as Q2)
    (kk : ∀ s' r, Q2 s' r → q_K M s' (kc + M2.2.2.2.1) (ks + M2.2.2.2.2) (pc + 3) lv (r.toList ++ rest) Q) : q_K M σ kc ks pc lv (as.reverse ++ rest) Q := by
  intro p l ε e s m args below meth c H locs ls A C hA hW hS hl2
  obtain ⟨hx, hb, hml, hr, hts, hown, hlk, hnm, hAm, hb0⟩ := id C
  obtain ⟨⟨hini, hcode, hcls, hpar⟩, hstt⟩ := hM
  rw [q_stkS]
  refine q_back (Q2 := Q2) (σ := σ) hA hW (mc := M2.2.2.2.1) (ms := M2.2.2.2.2) (va_runSN (host := host) (As := as.map (q_c ε)) ⟨hx, hb, hml, hown, hts⟩ (hm l ε)
    ⟨va_cnB (ws' := q_gt) as.length hts (q_goods M M2 hcode) rfl rfl rfl (hAm.2.2.1.1 _ hl) (hts _ (q_gt_in hini)) ⟨hcls.1, hcls.2, hpar⟩ hroom, hts _ (q_gt_in hstt), trivial⟩
    ⟨q_blind ε σ _, fun U hU hW' => ⟨rfl, by rw [hU]; exact hW, hAm.to hW' hS hA.2.2 hU⟩⟩ rfl (by simp) hl2.1 rfl (q_rest8 ε hrest) hd hcells) hS
    (fun s' r hq H1 locs1 w0 w1 w2 => kk s' r hq p l ε e s m args below meth c H1 locs1 ls A C w0 w1 w2 hl2)
/-- a constructor -/
theorem q_callI {i idx : Nat} (hret : M2.1.2.2.2 = none) (hd : decode M.1.2.1 pc = .ok (.invokespecial idx, 3)) (hM : q_DI M2 as.length) (hl : Cond.methodLink M.1.1.cls idx M2.1.1 ∈ q_gt)
    (hroom : q_fit M M2) (hrest : (rest.map fun v => v.category).sum ≤ 8) (hcells : kc + M2.2.2.2.1 ≤ M.2.2.2.1 ∧ ks + M2.2.2.2.2 ≤ M.2.2.2.2) (hm : q_met M2 σ (.ref i :: as) Q2)
    (kk : ∀ s' r, Q2 s' r → q_K M s' (kc + M2.2.2.2.1) (ks + M2.2.2.2.2) (pc + 3) lv (r.toList ++ rest) Q) : q_K M σ kc ks pc lv (as.reverse ++ .ref i :: rest) Q := by
  intro p l ε e s m args below meth c H locs ls A C hA hW hS hl2
  obtain ⟨hx, hb, hml, hr, hts, hown, hlk, hnm, hAm, hb0⟩ := id C
  obtain ⟨⟨hini, hcode, hcls, hpar⟩, hnm2, hin⟩ := hM
  rw [q_stk]
  rw [hret] at hcode
  have hm' := hm l ε
  have hg := q_goods M M2 (by rw [hret]; exact hcode)
  have hw : q_ws M2 = Cond.code M2.1.1 M2.1.2.1 M2.1.2.2.1 none :: q_gt := by unfold q_ws; rw [hret]
  refine q_back (Q2 := Q2) (σ := σ) hA hW (mc := M2.2.2.2.1) (ms := M2.2.2.2.2) (va_runI (As := as.map (q_c ε)) ⟨hx, hb, hml, hown, hts⟩ hm'
    ⟨callB_of (bytes := M2.1.2.1) (maxL := M2.1.2.2.1) as.length hts hg hw rfl rfl (hts _ (q_gt_in hini)) (hts _ (q_gt_in hl)) ⟨hcls.1, hcls.2, hpar⟩ hroom, hnm2, hts _ (q_gt_in hin)⟩
    ⟨q_blind ε σ _, fun U hU hW' => ⟨rfl, by rw [hU]; exact hW, hAm.to hW' hS hA.2.2 hU⟩⟩ rfl (by simp) hl2.1 rfl (q_rest8 ε hrest) hd hcells) hS
    (fun s' r hq H1 locs1 w0 w1 w2 => kk s' r hq p l ε e s m args below meth c H1 locs1 ls A C w0 w1 w2 hl2)
/-- a private constructor of a nest mate -/
theorem q_callIN {i idx : Nat} {host : String} (hret : M2.1.2.2.2 = none) (hd : decode M.1.2.1 pc = .ok (.invokespecial idx, 3)) (hM : q_DI M2 as.length) (hl : (M.1.1.cls, idx, M2.1.1, host) ∈ q_nests)
    (hroom : q_fit M M2) (hrest : (rest.map fun v => v.category).sum ≤ 8) (hcells : kc + M2.2.2.2.1 ≤ M.2.2.2.1 ∧ ks + M2.2.2.2.2 ≤ M.2.2.2.2) (hm : q_met M2 σ (.ref i :: as) Q2)
    (kk : ∀ s' r, Q2 s' r → q_K M s' (kc + M2.2.2.2.1) (ks + M2.2.2.2.2) (pc + 3) lv (r.toList ++ rest) Q) : q_K M σ kc ks pc lv (as.reverse ++ .ref i :: rest) Q := by
  intro p l ε e s m args below meth c H locs ls A C hA hW hS hl2
  obtain ⟨hx, hb, hml, hr, hts, hown, hlk, hnm, hAm, hb0⟩ := id C
  obtain ⟨⟨hini, hcode, hcls, hpar⟩, hnm2, hin⟩ := hM
  rw [q_stk]
  rw [hret] at hcode
  have hm' := hm l ε
  have hg := q_goods M M2 (by rw [hret]; exact hcode)
  have hw : q_ws M2 = Cond.code M2.1.1 M2.1.2.1 M2.1.2.2.1 none :: q_gt := by unfold q_ws; rw [hret]
  refine q_back (Q2 := Q2) (σ := σ) hA hW (mc := M2.2.2.2.1) (ms := M2.2.2.2.2) (va_runIN (host := host) (As := as.map (q_c ε)) ⟨hx, hb, hml, hown, hts⟩ hm'
    ⟨va_cnB (bytes := M2.1.2.1) (maxL := M2.1.2.2.1) as.length hts hg hw rfl rfl (hAm.2.2.1.1 _ hl) (hts _ (q_gt_in hini)) ⟨hcls.1, hcls.2, hpar⟩ hroom, hnm2, hts _ (q_gt_in hin)⟩
    ⟨q_blind ε σ _, fun U hU hW' => ⟨rfl, by rw [hU]; exact hW, hAm.to hW' hS hA.2.2 hU⟩⟩ rfl (by simp) hl2.1 rfl (q_rest8 ε hrest) hd hcells) hS
    (fun s' r hq H1 locs1 w0 w1 w2 => kk s' r hq p l ε e s m args below meth c H1 locs1 ls A C w0 w1 w2 hl2)
/-- Object() -/
theorem q_objInit {i idx : Nat} (hd : decode M.1.2.1 pc = .ok (.invokespecial idx, 3)) (hl : Cond.methodLink M.1.1.cls idx Lib.objectInit ∈ q_gt) (h1 : Cond.instanceMethod Lib.objectInit ∈ q_gt) (h2 : Cond.code Lib.objectInit ⟨#[0xb1]⟩ 1 none ∈ q_gt)
    (hroom : 1 ≤ M.2.1 ∧ 20 ≤ M.2.2.1) (hrest : (rest.map fun v => v.category).sum ≤ 8) (k : q_K M σ kc ks (pc + 3) lv rest Q) : q_K M σ kc ks pc lv (.ref i :: rest) Q := by
  intro p l ε e s m args below meth c H locs ls A C hA hW hS hl2
  obtain ⟨hx, hb, hml, hr, hts, hown, hlk, hnm, hAm, hb0⟩ := id C
  refine W.objInit hx hb hown (hts _ (q_gt_in hl)) (hts _ (q_gt_in h1)) (hts _ (q_gt_in h2)) rfl (by rw [hml]; exact hl2.1) rfl hd hroom.1 ?_ (k p l ε e s m args below meth c H locs ls A C hA hW hS hl2)
  have h3 := q_rest8 (rest := rest) (pc := pc) (m := m) (ls := ls) (st := []) ε hrest
  have h4 : 20 ≤ (q_rm M).locals := hroom.2
  have h5 : 2 * (F0 m pc ls []).monitorRoom + ((rest.map (q_c ε)).map fun v => v.category).sum + 12 ≤ (q_rm M).locals := by omega
  exact h5
end QC

theorem q_callV0 {M M2 : q_M} {σ : q_S} {kc ks pc : Nat} {lv : List (Nat × Value)} {rest : List Value} {Q : q_F} {Q2 : q_P} {i ci n idx : Nat} (hd : decode M.1.2.1 pc = .ok (.invokevirtual idx, 3)) (hM : q_DV M2 0) (hl : Cond.methodLink M.1.1.cls idx M2.1.1 ∈ q_gt) (hi : σ.2.2.2[i]? = some (ci, n)) (hc : ci < 12) (hR : q_R ci = M2.1.1.cls) (hroom : q_fit M M2) (hrest : (rest.map fun v => v.category).sum ≤ 8) (hcells : kc + M2.2.2.2.1 ≤ M.2.2.2.1 ∧ ks + M2.2.2.2.2 ≤ M.2.2.2.2) (hm : q_met M2 σ (.ref i :: []) Q2) (kk : ∀ s' r, Q2 s' r → q_K M s' (kc + M2.2.2.2.1) (ks + M2.2.2.2.2) (pc + 3) lv (r.toList ++ rest) Q) : q_K M σ kc ks pc lv (.ref i :: rest) Q := q_callV (as := []) hd hM hl hi hc hR hroom hrest hcells hm kk
theorem q_callS0 {M M2 : q_M} {σ : q_S} {kc ks pc : Nat} {lv : List (Nat × Value)} {rest : List Value} {Q : q_F} {Q2 : q_P} {idx : Nat} (hd : decode M.1.2.1 pc = .ok (.invokestatic idx, 3)) (hM : q_DS M2 0) (hl : Cond.methodLink M.1.1.cls idx M2.1.1 ∈ q_gt) (hroom : q_fit M M2) (hrest : (rest.map fun v => v.category).sum ≤ 8) (hcells : kc + M2.2.2.2.1 ≤ M.2.2.2.1 ∧ ks + M2.2.2.2.2 ≤ M.2.2.2.2) (hm : q_met M2 σ [] Q2) (kk : ∀ s' r, Q2 s' r → q_K M s' (kc + M2.2.2.2.1) (ks + M2.2.2.2.2) (pc + 3) lv (r.toList ++ rest) Q) : q_K M σ kc ks pc lv (rest) Q := q_callS (as := []) hd hM hl hroom hrest hcells hm kk
theorem q_callI0 {M M2 : q_M} {σ : q_S} {kc ks pc : Nat} {lv : List (Nat × Value)} {rest : List Value} {Q : q_F} {Q2 : q_P} {i idx : Nat} (hret : M2.1.2.2.2 = none) (hd : decode M.1.2.1 pc = .ok (.invokespecial idx, 3)) (hM : q_DI M2 0) (hl : Cond.methodLink M.1.1.cls idx M2.1.1 ∈ q_gt) (hroom : q_fit M M2) (hrest : (rest.map fun v => v.category).sum ≤ 8) (hcells : kc + M2.2.2.2.1 ≤ M.2.2.2.1 ∧ ks + M2.2.2.2.2 ≤ M.2.2.2.2) (hm : q_met M2 σ (.ref i :: []) Q2) (kk : ∀ s' r, Q2 s' r → q_K M s' (kc + M2.2.2.2.1) (ks + M2.2.2.2.2) (pc + 3) lv (r.toList ++ rest) Q) : q_K M σ kc ks pc lv (.ref i :: rest) Q := q_callI (as := []) hret hd hM hl hroom hrest hcells hm kk
theorem q_callIN0 {M M2 : q_M} {σ : q_S} {kc ks pc : Nat} {lv : List (Nat × Value)} {rest : List Value} {Q : q_F} {Q2 : q_P} {i idx : Nat} {host : String} (hret : M2.1.2.2.2 = none) (hd : decode M.1.2.1 pc = .ok (.invokespecial idx, 3)) (hM : q_DI M2 0) (hl : (M.1.1.cls, idx, M2.1.1, host) ∈ q_nests) (hroom : q_fit M M2) (hrest : (rest.map fun v => v.category).sum ≤ 8) (hcells : kc + M2.2.2.2.1 ≤ M.2.2.2.1 ∧ ks + M2.2.2.2.2 ≤ M.2.2.2.2) (hm : q_met M2 σ (.ref i :: []) Q2) (kk : ∀ s' r, Q2 s' r → q_K M s' (kc + M2.2.2.2.1) (ks + M2.2.2.2.2) (pc + 3) lv (r.toList ++ rest) Q) : q_K M σ kc ks pc lv (.ref i :: rest) Q := q_callIN (as := []) hret hd hM hl hroom hrest hcells hm kk
theorem q_callV1 {M M2 : q_M} {σ : q_S} {kc ks pc : Nat} {lv : List (Nat × Value)} {rest : List Value} {Q : q_F} {Q2 : q_P} {u1 : Value} {i ci n idx : Nat} (hd : decode M.1.2.1 pc = .ok (.invokevirtual idx, 3)) (hM : q_DV M2 1) (hl : Cond.methodLink M.1.1.cls idx M2.1.1 ∈ q_gt) (hi : σ.2.2.2[i]? = some (ci, n)) (hc : ci < 12) (hR : q_R ci = M2.1.1.cls) (hroom : q_fit M M2) (hrest : (rest.map fun v => v.category).sum ≤ 8) (hcells : kc + M2.2.2.2.1 ≤ M.2.2.2.1 ∧ ks + M2.2.2.2.2 ≤ M.2.2.2.2) (hm : q_met M2 σ (.ref i :: [u1]) Q2) (kk : ∀ s' r, Q2 s' r → q_K M s' (kc + M2.2.2.2.1) (ks + M2.2.2.2.2) (pc + 3) lv (r.toList ++ rest) Q) : q_K M σ kc ks pc lv (u1 :: .ref i :: rest) Q := q_callV (as := [u1]) hd hM hl hi hc hR hroom hrest hcells hm kk
theorem q_callS1 {M M2 : q_M} {σ : q_S} {kc ks pc : Nat} {lv : List (Nat × Value)} {rest : List Value} {Q : q_F} {Q2 : q_P} {u1 : Value} {idx : Nat} (hd : decode M.1.2.1 pc = .ok (.invokestatic idx, 3)) (hM : q_DS M2 1) (hl : Cond.methodLink M.1.1.cls idx M2.1.1 ∈ q_gt) (hroom : q_fit M M2) (hrest : (rest.map fun v => v.category).sum ≤ 8) (hcells : kc + M2.2.2.2.1 ≤ M.2.2.2.1 ∧ ks + M2.2.2.2.2 ≤ M.2.2.2.2) (hm : q_met M2 σ [u1] Q2) (kk : ∀ s' r, Q2 s' r → q_K M s' (kc + M2.2.2.2.1) (ks + M2.2.2.2.2) (pc + 3) lv (r.toList ++ rest) Q) : q_K M σ kc ks pc lv (u1 :: rest) Q := q_callS (as := [u1]) hd hM hl hroom hrest hcells hm kk
theorem q_callSN1 {M M2 : q_M} {σ : q_S} {kc ks pc : Nat} {lv : List (Nat × Value)} {rest : List Value} {Q : q_F} {Q2 : q_P} {u1 : Value} {idx : Nat} {host : String} (hd : decode M.1.2.1 pc = .ok (.invokestatic idx, 3)) (hM : q_DS M2 1) (hl : (M.1.1.cls, idx, M2.1.1, host) ∈ q_nests) (hroom : q_fit M M2) (hrest : (rest.map fun v => v.category).sum ≤ 8) (hcells : kc + M2.2.2.2.1 ≤ M.2.2.2.1 ∧ ks + M2.2.2.2.2 ≤ M.2.2.2.2) (hm : q_met M2 σ [u1] Q2) (kk : ∀ s' r, Q2 s' r → q_K M s' (kc + M2.2.2.2.1) (ks + M2.2.2.2.2) (pc + 3) lv (r.toList ++ rest) Q) : q_K M σ kc ks pc lv (u1 :: rest) Q := q_callSN (as := [u1]) hd hM hl hroom hrest hcells hm kk
theorem q_callI1 {M M2 : q_M} {σ : q_S} {kc ks pc : Nat} {lv : List (Nat × Value)} {rest : List Value} {Q : q_F} {Q2 : q_P} {u1 : Value} {i idx : Nat} (hret : M2.1.2.2.2 = none) (hd : decode M.1.2.1 pc = .ok (.invokespecial idx, 3)) (hM : q_DI M2 1) (hl : Cond.methodLink M.1.1.cls idx M2.1.1 ∈ q_gt) (hroom : q_fit M M2) (hrest : (rest.map fun v => v.category).sum ≤ 8) (hcells : kc + M2.2.2.2.1 ≤ M.2.2.2.1 ∧ ks + M2.2.2.2.2 ≤ M.2.2.2.2) (hm : q_met M2 σ (.ref i :: [u1]) Q2) (kk : ∀ s' r, Q2 s' r → q_K M s' (kc + M2.2.2.2.1) (ks + M2.2.2.2.2) (pc + 3) lv (r.toList ++ rest) Q) : q_K M σ kc ks pc lv (u1 :: .ref i :: rest) Q := q_callI (as := [u1]) hret hd hM hl hroom hrest hcells hm kk
theorem q_callIN1 {M M2 : q_M} {σ : q_S} {kc ks pc : Nat} {lv : List (Nat × Value)} {rest : List Value} {Q : q_F} {Q2 : q_P} {u1 : Value} {i idx : Nat} {host : String} (hret : M2.1.2.2.2 = none) (hd : decode M.1.2.1 pc = .ok (.invokespecial idx, 3)) (hM : q_DI M2 1) (hl : (M.1.1.cls, idx, M2.1.1, host) ∈ q_nests) (hroom : q_fit M M2) (hrest : (rest.map fun v => v.category).sum ≤ 8) (hcells : kc + M2.2.2.2.1 ≤ M.2.2.2.1 ∧ ks + M2.2.2.2.2 ≤ M.2.2.2.2) (hm : q_met M2 σ (.ref i :: [u1]) Q2) (kk : ∀ s' r, Q2 s' r → q_K M s' (kc + M2.2.2.2.1) (ks + M2.2.2.2.2) (pc + 3) lv (r.toList ++ rest) Q) : q_K M σ kc ks pc lv (u1 :: .ref i :: rest) Q := q_callIN (as := [u1]) hret hd hM hl hroom hrest hcells hm kk
theorem q_callV2 {M M2 : q_M} {σ : q_S} {kc ks pc : Nat} {lv : List (Nat × Value)} {rest : List Value} {Q : q_F} {Q2 : q_P} {u1 u2 : Value} {i ci n idx : Nat} (hd : decode M.1.2.1 pc = .ok (.invokevirtual idx, 3)) (hM : q_DV M2 2) (hl : Cond.methodLink M.1.1.cls idx M2.1.1 ∈ q_gt) (hi : σ.2.2.2[i]? = some (ci, n)) (hc : ci < 12) (hR : q_R ci = M2.1.1.cls) (hroom : q_fit M M2) (hrest : (rest.map fun v => v.category).sum ≤ 8) (hcells : kc + M2.2.2.2.1 ≤ M.2.2.2.1 ∧ ks + M2.2.2.2.2 ≤ M.2.2.2.2) (hm : q_met M2 σ (.ref i :: [u1, u2]) Q2) (kk : ∀ s' r, Q2 s' r → q_K M s' (kc + M2.2.2.2.1) (ks + M2.2.2.2.2) (pc + 3) lv (r.toList ++ rest) Q) : q_K M σ kc ks pc lv (u2 :: u1 :: .ref i :: rest) Q := q_callV (as := [u1, u2]) hd hM hl hi hc hR hroom hrest hcells hm kk
theorem q_callS2 {M M2 : q_M} {σ : q_S} {kc ks pc : Nat} {lv : List (Nat × Value)} {rest : List Value} {Q : q_F} {Q2 : q_P} {u1 u2 : Value} {idx : Nat} (hd : decode M.1.2.1 pc = .ok (.invokestatic idx, 3)) (hM : q_DS M2 2) (hl : Cond.methodLink M.1.1.cls idx M2.1.1 ∈ q_gt) (hroom : q_fit M M2) (hrest : (rest.map fun v => v.category).sum ≤ 8) (hcells : kc + M2.2.2.2.1 ≤ M.2.2.2.1 ∧ ks + M2.2.2.2.2 ≤ M.2.2.2.2) (hm : q_met M2 σ [u1, u2] Q2) (kk : ∀ s' r, Q2 s' r → q_K M s' (kc + M2.2.2.2.1) (ks + M2.2.2.2.2) (pc + 3) lv (r.toList ++ rest) Q) : q_K M σ kc ks pc lv (u2 :: u1 :: rest) Q := q_callS (as := [u1, u2]) hd hM hl hroom hrest hcells hm kk
theorem q_callI2 {M M2 : q_M} {σ : q_S} {kc ks pc : Nat} {lv : List (Nat × Value)} {rest : List Value} {Q : q_F} {Q2 : q_P} {u1 u2 : Value} {i idx : Nat} (hret : M2.1.2.2.2 = none) (hd : decode M.1.2.1 pc = .ok (.invokespecial idx, 3)) (hM : q_DI M2 2) (hl : Cond.methodLink M.1.1.cls idx M2.1.1 ∈ q_gt) (hroom : q_fit M M2) (hrest : (rest.map fun v => v.category).sum ≤ 8) (hcells : kc + M2.2.2.2.1 ≤ M.2.2.2.1 ∧ ks + M2.2.2.2.2 ≤ M.2.2.2.2) (hm : q_met M2 σ (.ref i :: [u1, u2]) Q2) (kk : ∀ s' r, Q2 s' r → q_K M s' (kc + M2.2.2.2.1) (ks + M2.2.2.2.2) (pc + 3) lv (r.toList ++ rest) Q) : q_K M σ kc ks pc lv (u2 :: u1 :: .ref i :: rest) Q := q_callI (as := [u1, u2]) hret hd hM hl hroom hrest hcells hm kk
theorem q_callIN2 {M M2 : q_M} {σ : q_S} {kc ks pc : Nat} {lv : List (Nat × Value)} {rest : List Value} {Q : q_F} {Q2 : q_P} {u1 u2 : Value} {i idx : Nat} {host : String} (hret : M2.1.2.2.2 = none) (hd : decode M.1.2.1 pc = .ok (.invokespecial idx, 3)) (hM : q_DI M2 2) (hl : (M.1.1.cls, idx, M2.1.1, host) ∈ q_nests) (hroom : q_fit M M2) (hrest : (rest.map fun v => v.category).sum ≤ 8) (hcells : kc + M2.2.2.2.1 ≤ M.2.2.2.1 ∧ ks + M2.2.2.2.2 ≤ M.2.2.2.2) (hm : q_met M2 σ (.ref i :: [u1, u2]) Q2) (kk : ∀ s' r, Q2 s' r → q_K M s' (kc + M2.2.2.2.1) (ks + M2.2.2.2.2) (pc + 3) lv (r.toList ++ rest) Q) : q_K M σ kc ks pc lv (u2 :: u1 :: .ref i :: rest) Q := q_callIN (as := [u1, u2]) hret hd hM hl hroom hrest hcells hm kk
theorem q_callV3 {M M2 : q_M} {σ : q_S} {kc ks pc : Nat} {lv : List (Nat × Value)} {rest : List Value} {Q : q_F} {Q2 : q_P} {u1 u2 u3 : Value} {i ci n idx : Nat} (hd : decode M.1.2.1 pc = .ok (.invokevirtual idx, 3)) (hM : q_DV M2 3) (hl : Cond.methodLink M.1.1.cls idx M2.1.1 ∈ q_gt) (hi : σ.2.2.2[i]? = some (ci, n)) (hc : ci < 12) (hR : q_R ci = M2.1.1.cls) (hroom : q_fit M M2) (hrest : (rest.map fun v => v.category).sum ≤ 8) (hcells : kc + M2.2.2.2.1 ≤ M.2.2.2.1 ∧ ks + M2.2.2.2.2 ≤ M.2.2.2.2) (hm : q_met M2 σ (.ref i :: [u1, u2, u3]) Q2) (kk : ∀ s' r, Q2 s' r → q_K M s' (kc + M2.2.2.2.1) (ks + M2.2.2.2.2) (pc + 3) lv (r.toList ++ rest) Q) : q_K M σ kc ks pc lv (u3 :: u2 :: u1 :: .ref i :: rest) Q := q_callV (as := [u1, u2, u3]) hd hM hl hi hc hR hroom hrest hcells hm kk
theorem q_callS3 {M M2 : q_M} {σ : q_S} {kc ks pc : Nat} {lv : List (Nat × Value)} {rest : List Value} {Q : q_F} {Q2 : q_P} {u1 u2 u3 : Value} {idx : Nat} (hd : decode M.1.2.1 pc = .ok (.invokestatic idx, 3)) (hM : q_DS M2 3) (hl : Cond.methodLink M.1.1.cls idx M2.1.1 ∈ q_gt) (hroom : q_fit M M2) (hrest : (rest.map fun v => v.category).sum ≤ 8) (hcells : kc + M2.2.2.2.1 ≤ M.2.2.2.1 ∧ ks + M2.2.2.2.2 ≤ M.2.2.2.2) (hm : q_met M2 σ [u1, u2, u3] Q2) (kk : ∀ s' r, Q2 s' r → q_K M s' (kc + M2.2.2.2.1) (ks + M2.2.2.2.2) (pc + 3) lv (r.toList ++ rest) Q) : q_K M σ kc ks pc lv (u3 :: u2 :: u1 :: rest) Q := q_callS (as := [u1, u2, u3]) hd hM hl hroom hrest hcells hm kk
theorem q_callI3 {M M2 : q_M} {σ : q_S} {kc ks pc : Nat} {lv : List (Nat × Value)} {rest : List Value} {Q : q_F} {Q2 : q_P} {u1 u2 u3 : Value} {i idx : Nat} (hret : M2.1.2.2.2 = none) (hd : decode M.1.2.1 pc = .ok (.invokespecial idx, 3)) (hM : q_DI M2 3) (hl : Cond.methodLink M.1.1.cls idx M2.1.1 ∈ q_gt) (hroom : q_fit M M2) (hrest : (rest.map fun v => v.category).sum ≤ 8) (hcells : kc + M2.2.2.2.1 ≤ M.2.2.2.1 ∧ ks + M2.2.2.2.2 ≤ M.2.2.2.2) (hm : q_met M2 σ (.ref i :: [u1, u2, u3]) Q2) (kk : ∀ s' r, Q2 s' r → q_K M s' (kc + M2.2.2.2.1) (ks + M2.2.2.2.2) (pc + 3) lv (r.toList ++ rest) Q) : q_K M σ kc ks pc lv (u3 :: u2 :: u1 :: .ref i :: rest) Q := q_callI (as := [u1, u2, u3]) hret hd hM hl hroom hrest hcells hm kk
theorem q_callIN3 {M M2 : q_M} {σ : q_S} {kc ks pc : Nat} {lv : List (Nat × Value)} {rest : List Value} {Q : q_F} {Q2 : q_P} {u1 u2 u3 : Value} {i idx : Nat} {host : String} (hret : M2.1.2.2.2 = none) (hd : decode M.1.2.1 pc = .ok (.invokespecial idx, 3)) (hM : q_DI M2 3) (hl : (M.1.1.cls, idx, M2.1.1, host) ∈ q_nests) (hroom : q_fit M M2) (hrest : (rest.map fun v => v.category).sum ≤ 8) (hcells : kc + M2.2.2.2.1 ≤ M.2.2.2.1 ∧ ks + M2.2.2.2.2 ≤ M.2.2.2.2) (hm : q_met M2 σ (.ref i :: [u1, u2, u3]) Q2) (kk : ∀ s' r, Q2 s' r → q_K M s' (kc + M2.2.2.2.1) (ks + M2.2.2.2.2) (pc + 3) lv (r.toList ++ rest) Q) : q_K M σ kc ks pc lv (u3 :: u2 :: u1 :: .ref i :: rest) Q := q_callIN (as := [u1, u2, u3]) hret hd hM hl hroom hrest hcells hm kk
theorem q_callV4 {M M2 : q_M} {σ : q_S} {kc ks pc : Nat} {lv : List (Nat × Value)} {rest : List Value} {Q : q_F} {Q2 : q_P} {u1 u2 u3 u4 : Value} {i ci n idx : Nat} (hd : decode M.1.2.1 pc = .ok (.invokevirtual idx, 3)) (hM : q_DV M2 4) (hl : Cond.methodLink M.1.1.cls idx M2.1.1 ∈ q_gt) (hi : σ.2.2.2[i]? = some (ci, n)) (hc : ci < 12) (hR : q_R ci = M2.1.1.cls) (hroom : q_fit M M2) (hrest : (rest.map fun v => v.category).sum ≤ 8) (hcells : kc + M2.2.2.2.1 ≤ M.2.2.2.1 ∧ ks + M2.2.2.2.2 ≤ M.2.2.2.2) (hm : q_met M2 σ (.ref i :: [u1, u2, u3, u4]) Q2) (kk : ∀ s' r, Q2 s' r → q_K M s' (kc + M2.2.2.2.1) (ks + M2.2.2.2.2) (pc + 3) lv (r.toList ++ rest) Q) : q_K M σ kc ks pc lv (u4 :: u3 :: u2 :: u1 :: .ref i :: rest) Q := q_callV (as := [u1, u2, u3, u4]) hd hM hl hi hc hR hroom hrest hcells hm kk
theorem q_callS4 {M M2 : q_M} {σ : q_S} {kc ks pc : Nat} {lv : List (Nat × Value)} {rest : List Value} {Q : q_F} {Q2 : q_P} {u1 u2 u3 u4 : Value} {idx : Nat} (hd : decode M.1.2.1 pc = .ok (.invokestatic idx, 3)) (hM : q_DS M2 4) (hl : Cond.methodLink M.1.1.cls idx M2.1.1 ∈ q_gt) (hroom : q_fit M M2) (hrest : (rest.map fun v => v.category).sum ≤ 8) (hcells : kc + M2.2.2.2.1 ≤ M.2.2.2.1 ∧ ks + M2.2.2.2.2 ≤ M.2.2.2.2) (hm : q_met M2 σ [u1, u2, u3, u4] Q2) (kk : ∀ s' r, Q2 s' r → q_K M s' (kc + M2.2.2.2.1) (ks + M2.2.2.2.2) (pc + 3) lv (r.toList ++ rest) Q) : q_K M σ kc ks pc lv (u4 :: u3 :: u2 :: u1 :: rest) Q := q_callS (as := [u1, u2, u3, u4]) hd hM hl hroom hrest hcells hm kk
theorem q_callV5 {M M2 : q_M} {σ : q_S} {kc ks pc : Nat} {lv : List (Nat × Value)} {rest : List Value} {Q : q_F} {Q2 : q_P} {u1 u2 u3 u4 u5 : Value} {i ci n idx : Nat} (hd : decode M.1.2.1 pc = .ok (.invokevirtual idx, 3)) (hM : q_DV M2 5) (hl : Cond.methodLink M.1.1.cls idx M2.1.1 ∈ q_gt) (hi : σ.2.2.2[i]? = some (ci, n)) (hc : ci < 12) (hR : q_R ci = M2.1.1.cls) (hroom : q_fit M M2) (hrest : (rest.map fun v => v.category).sum ≤ 8) (hcells : kc + M2.2.2.2.1 ≤ M.2.2.2.1 ∧ ks + M2.2.2.2.2 ≤ M.2.2.2.2) (hm : q_met M2 σ (.ref i :: [u1, u2, u3, u4, u5]) Q2) (kk : ∀ s' r, Q2 s' r → q_K M s' (kc + M2.2.2.2.1) (ks + M2.2.2.2.2) (pc + 3) lv (r.toList ++ rest) Q) : q_K M σ kc ks pc lv (u5 :: u4 :: u3 :: u2 :: u1 :: .ref i :: rest) Q := q_callV (as := [u1, u2, u3, u4, u5]) hd hM hl hi hc hR hroom hrest hcells hm kk
theorem q_callS5 {M M2 : q_M} {σ : q_S} {kc ks pc : Nat} {lv : List (Nat × Value)} {rest : List Value} {Q : q_F} {Q2 : q_P} {u1 u2 u3 u4 u5 : Value} {idx : Nat} (hd : decode M.1.2.1 pc = .ok (.invokestatic idx, 3)) (hM : q_DS M2 5) (hl : Cond.methodLink M.1.1.cls idx M2.1.1 ∈ q_gt) (hroom : q_fit M M2) (hrest : (rest.map fun v => v.category).sum ≤ 8) (hcells : kc + M2.2.2.2.1 ≤ M.2.2.2.1 ∧ ks + M2.2.2.2.2 ≤ M.2.2.2.2) (hm : q_met M2 σ [u1, u2, u3, u4, u5] Q2) (kk : ∀ s' r, Q2 s' r → q_K M s' (kc + M2.2.2.2.1) (ks + M2.2.2.2.2) (pc + 3) lv (r.toList ++ rest) Q) : q_K M σ kc ks pc lv (u5 :: u4 :: u3 :: u2 :: u1 :: rest) Q := q_callS (as := [u1, u2, u3, u4, u5]) hd hM hl hroom hrest hcells hm kk
theorem q_callV6 {M M2 : q_M} {σ : q_S} {kc ks pc : Nat} {lv : List (Nat × Value)} {rest : List Value} {Q : q_F} {Q2 : q_P} {u1 u2 u3 u4 u5 u6 : Value} {i ci n idx : Nat} (hd : decode M.1.2.1 pc = .ok (.invokevirtual idx, 3)) (hM : q_DV M2 6) (hl : Cond.methodLink M.1.1.cls idx M2.1.1 ∈ q_gt) (hi : σ.2.2.2[i]? = some (ci, n)) (hc : ci < 12) (hR : q_R ci = M2.1.1.cls) (hroom : q_fit M M2) (hrest : (rest.map fun v => v.category).sum ≤ 8) (hcells : kc + M2.2.2.2.1 ≤ M.2.2.2.1 ∧ ks + M2.2.2.2.2 ≤ M.2.2.2.2) (hm : q_met M2 σ (.ref i :: [u1, u2, u3, u4, u5, u6]) Q2) (kk : ∀ s' r, Q2 s' r → q_K M s' (kc + M2.2.2.2.1) (ks + M2.2.2.2.2) (pc + 3) lv (r.toList ++ rest) Q) : q_K M σ kc ks pc lv (u6 :: u5 :: u4 :: u3 :: u2 :: u1 :: .ref i :: rest) Q := q_callV (as := [u1, u2, u3, u4, u5, u6]) hd hM hl hi hc hR hroom hrest hcells hm kk
