/-! THE ABSTRACT MACHINE. A state is four functions over cell numbers: ints, longs, references, and the list of the cells' kinds in the order in which they were made. 'q_K M s kc ks pc lv st Q': method M, from pc with locals lv and stack st in state s, comes to its end with Q. Everything above this part speaks of q_K and q_met alone. -/
def q_gt : List Cond := lw_tbl.filter goodWord
abbrev q_S : Type := (Nat → Nat → Int32) × (Nat → Nat → Int64) × (Nat → Nat → Option Nat) × List (Nat × Nat)
abbrev q_E : Type := va_G × (Nat → ClassId) × Nat × (Nat → Nat)
def q_ad (ε : q_E) (i : Nat) : Nat := if i < 1000 then ε.2.2.1 + i else ε.2.2.2 i
def q_c (ε : q_E) : Value → Value
  | .ref i => .ref (q_ad ε i)
  | v => v
def q_rf : Option Nat → Value
  | some i => .ref i
  | none => .null
/-- the value of a field of a type, as the abstract machine sees it -/
def q_av (s : q_S) (i k : Nat) : FieldType → Value
  | .long => .long (s.2.1 i k)
  | .object _ => q_rf (s.2.2.1 i k)
  | .array _ => q_rf (s.2.2.1 i k)
  | _ => .int (s.1 i k)
def q_fv (ε : q_E) (s : q_S) (i k : Nat) : FieldType → Value
  | .long => .long (s.2.1 i k)
  | .object _ => va_rf ((s.2.2.1 i k).map (q_ad ε))
  | .array _ => va_rf ((s.2.2.1 i k).map (q_ad ε))
  | _ => .int (s.1 i k)
theorem q_fv_c (ε : q_E) (s : q_S) (i k : Nat) (ty : FieldType) : q_fv ε s i k ty = q_c ε (q_av s i k ty) := by
  cases ty with
  | object n => simp only [q_fv, q_av]; cases s.2.2.1 i k <;> rfl
  | array t => simp only [q_fv, q_av]; cases s.2.2.1 i k <;> rfl
  | _ => rfl
def q_ty (c : Nat) : Nat → FieldType := match c with
  | 0 => tyX0
  | 1 => tyX1
  | 2 => tyX2
  | 3 => tyX3
  | 4 => tyX4
  | 5 => tyX5
  | 6 => tyX6
  | 7 => tyX7
  | 8 => tyX8
  | 9 => tyX9
  | 10 => tyX10
  | _ => tyX11
def q_N (c : Nat) : Nat := match c with
  | 0 => 16
  | 1 => 13
  | 2 => 7
  | 3 => 8
  | 4 => 10
  | 5 => 6
  | 6 => 15
  | 7 => 15
  | 8 => 4
  | 9 => 17
  | 10 => 16
  | _ => 98
def q_T (c : Nat) : u_T := match c with
  | 0 => TX0
  | 1 => TX1
  | 2 => TX2
  | 3 => TX3
  | 4 => TX4
  | 5 => TX5
  | 6 => TX6
  | 7 => TX7
  | 8 => TX8
  | 9 => TX9
  | 10 => TX10
  | _ => TX11
def q_R (c : Nat) : String := match c with
  | 0 => RX0
  | 1 => RX1
  | 2 => RX2
  | 3 => RX3
  | 4 => RX4
  | 5 => RX5
  | 6 => RX6
  | 7 => RX7
  | 8 => RX8
  | 9 => RX9
  | 10 => RX10
  | _ => RX11
def q_f (ε : q_E) (s : q_S) (i c : Nat) : List Value := (List.range (q_N c)).map fun k => q_fv ε s i k (q_ty c k)
def q_cell (ε : q_E) (s : q_S) (i : Nat) (t : Nat × Nat) : va_E := match t.1 with
  | 20 => .inl (ε.2.1 0, t.2, .inl (s.1 i))
  | 21 => .inl (ε.2.1 1, t.2, .inr (.inl (s.2.1 i)))
  | 22 => .inl (ε.2.1 2, t.2, .inl (s.1 i))
  | 23 => .inl (ε.2.1 3, t.2, .inl (s.1 i))
  | 24 => .inl (ε.2.1 4, t.2, .inr (.inr (.inr (.inr fun k => (s.2.2.1 i k).map (q_ad ε)))))
  | c => .inr (c, q_f ε s i c)
def q_w (ε : q_E) (s : q_S) : va_W := s.2.2.2.mapIdx fun i t => (ε.2.2.1 + i, q_cell ε s i t)
def q_tys (ε : q_E) : List (ClassId × FieldType) := [(ε.2.1 0, .int), (ε.2.1 1, .long), (ε.2.1 2, .byte), (ε.2.1 3, .boolean), (ε.2.1 4, .object "WhyNot$Tree")]
def q_A (ε : q_E) : Nat → Prop := fun q => ε.2.2.1 ≤ q
/-- the cells are as the state says; a cell of kind 50 isn't seen: nothing is said of it -/
def q_W (ε : q_E) (s : q_S) (H : Heap) : Prop := H.size = ε.2.2.1 + s.2.2.2.length ∧ s.2.2.2.length ≤ 1000 ∧ ∀ (i : Nat) (t : Nat × Nat), s.2.2.2[i]? = some t → t.1 ≠ 50 → va_at ε.1 vwCl (ε.2.2.1 + i, q_cell ε s i t) H
/-- what may change: the cells that are seen, and those that come -/
def q_AL (ε : q_E) (s : q_S) : Nat → Prop := fun q => ε.2.2.1 ≤ q ∧ ∀ (i : Nat) (t : Nat × Nat), s.2.2.2[i]? = some t → q = ε.2.2.1 + i → t.1 ≠ 50
def q_sees (ε : q_E) (s : q_S) (A : Nat → Prop) : Prop := ∀ (i : Nat) (t : Nat × Nat), s.2.2.2[i]? = some t → t.1 ≠ 50 → A (ε.2.2.1 + i)
def q_arity : List Int32 := [0, 0, 0, 1, 2, 3, 2, 2, 1, 1, 0, 2, 1, 1, 2, 2, 1]
def q_karity : List Int32 := [0, 0, 1, 2, 2, 0]
def q_text : String := "no yes def fun let if call pair first second nil cons head tail add less as num truth row both from any in "
def q_tbyt : List Int32 := q_text.toList.map fun ch => Int32.ofNat ch.toNat
/-- the static arrays (1000: ARITY, 1001: KIND_ARITY), the text of the Reader (1003, its bytes 1004) -/
def q_St (ε : q_E) (U : State) (H : Heap) : Prop :=
  va_Z "WhyNot" "ARITY" "[I" (.ref (ε.2.2.2 1000)) (q_A ε) U H ∧ va_T .int (ε.2.2.2 1000) 17 (fun j => .int (q_arity.getD j 0)) (q_A ε) U H ∧
  va_Z "WhyNot" "KIND_ARITY" "[I" (.ref (ε.2.2.2 1001)) (q_A ε) U H ∧ va_T .int (ε.2.2.2 1001) 6 (fun j => .int (q_karity.getD j 0)) (q_A ε) U H ∧
  vk_S 1 [107] [q_tbyt] (fun _ => ε.2.2.2 1003) (fun _ => ε.2.2.2 1004) (q_A ε) U H ∧ va_Z "java/lang/String" "COMPACT_STRINGS" "Z" (.int 1) (q_A ε) U H ∧
  (va_Z "jdk/internal/util/Preconditions" "SIOOBE_FORMATTER" "Ljava/util/function/BiFunction;" .null (q_A ε) U H ∨ va_Z "jdk/internal/util/Preconditions" "SIOOBE_FORMATTER" "Ljava/util/function/BiFunction;" (.ref (ε.2.2.2 1005)) (q_A ε) U H)
def q_nests : List (String × Nat × MethodName × String) := [("WhyNot", 15, ⟨"WhyNot$Tree", "<init>", "()V"⟩, "WhyNot"), ("WhyNot", 22, ⟨"WhyNot$Draft", "<init>", "()V"⟩, "WhyNot"), ("WhyNot", 29, ⟨"WhyNot$Kinds", "<init>", "()V"⟩, "WhyNot"), ("WhyNot", 94, ⟨"WhyNot$Told", "<init>", "()V"⟩, "WhyNot"), ("WhyNot$Draft", 11, ⟨"WhyNot$Tree", "<init>", "()V"⟩, "WhyNot"), ("WhyNot$Kinds", 55, ⟨"WhyNot", "kindArity", "(I)I"⟩, "WhyNot"), ("WhyNot$Reader", 191, ⟨"WhyNot", "kindArity", "(I)I"⟩, "WhyNot")]
def q_Nw (ε : q_E) (U : State) : Prop := (∀ q ∈ q_nests, va_Nw (.methodLinkNest q.1 q.2.1 q.2.2.1 q.2.2.2) U) ∧ va_Nw (.fieldLinkNest "WhyNot$Tree" 79 "WhyNot" "ARITY" "[I" "WhyNot") U ∧ vk_R "WhyNot$Reader" 37 q_text (ε.2.2.2 1003) U
def q_Am (ε : q_E) (U : State) (H : Heap) : Prop := va_K ε.1 vwCl (q_tys ε) U ∧ va_AO "WhyNot$Tree" U ∧ q_Nw ε U ∧ q_St ε U H
theorem q_Am.to {ε : q_E} {s U : State} {H : Heap} {locs : List Loc} {A : Nat → Prop} (hW : s.WarmedH U.vm) (hS : va_S A s.heap H locs) (hA3 : ∀ q, A q → ε.2.2.1 ≤ q) (hU : U.heap = H) (h : q_Am ε s s.heap) : q_Am ε U U.heap := by
  obtain ⟨hK, hO, ⟨hN, hF, hR⟩, z1, t1, z2, t2, vs, zc, zf⟩ := h
  have hv := hW.alike
  have hk : ∀ a : Nat, a < s.heap.size → ¬ q_A ε a → U.heap[a]? = s.heap[a]? := fun a h1 h2 => by rw [hU]; exact hS.2.1 a h1 (fun h => h2 (hA3 a h))
  exact ⟨va_K.moved hv hK, va_AO.moved hv hO, ⟨fun q hq => va_Nw.warmM hW (hN q hq), va_Nw.warmF hW hF, vk_R.warm hW hR⟩, (va_Z.moved hv z1).kept hk, (va_T.moved hv t1).kept hk, (va_Z.moved hv z2).kept hk, (va_T.moved hv t2).kept hk, (vk_S.moved hv vs).kept hk, (va_Z.moved hv zc).kept hk, zf.imp (fun z => (va_Z.moved hv z).kept hk) (fun z => (va_Z.moved hv z).kept hk)⟩
theorem q_Am.same {ε : q_E} {u U : State} (hv : U.vm = u.vm) (hh : U.heap = u.heap) (h : q_Am ε u u.heap) : q_Am ε U U.heap := by
  obtain ⟨hK, hO, ⟨hN, hF, hR⟩, z1, t1, z2, t2, vs, zc, zf⟩ := h
  have ha : u.vm.Alike U.vm := by rw [hv]; exact Vm.Alike.refl _
  rw [hh]
  exact ⟨va_K.moved ha hK, va_AO.moved ha hO, ⟨fun q hq => va_Nw.same rfl hv.symm (hN q hq), va_Nw.same rfl hv.symm hF, vk_R.same hv hR⟩, va_Z.moved ha z1, va_T.moved ha t1, va_Z.moved ha z2, va_T.moved ha t2, vk_S.moved ha vs, va_Z.moved ha zc, zf.imp (va_Z.moved ha) (va_Z.moved ha)⟩
/-- a method: its name, code, locals, type; its room: frames, words of locals, cells and slots that it makes -/
abbrev q_M : Type := (MethodName × ByteArray × Nat × Option FieldType) × (Nat × Nat × Nat × Nat)
def q_ws (M : q_M) : List Cond := .code M.1.1 M.1.2.1 M.1.2.2.1 M.1.2.2.2 :: q_gt
def q_rm (M : q_M) : Room := { frames := M.2.1, cells := M.2.2.2.1, slots := M.2.2.2.2, locals := M.2.2.1 }
abbrev q_P : Type := q_S → Option Value → Prop
abbrev q_F : Type := q_E → (Nat → Prop) → List Frame → Array Value → State → State → Prop
def q_Qc (ε : q_E) (A : Nat → Prop) (Q : q_P) : Array Value → State → Outcome → State → Prop := fun _ st oc t =>
  (∃ (s' : q_S) (r : Option Value), oc = .returned (r.map (q_c ε)) ∧ Q s' r ∧ q_W ε s' t.heap ∧ q_sees ε s' A) ∧ st.heap.size ≤ t.heap.size ∧ ∀ q : Nat, q < st.heap.size → ¬ A q → t.heap[q]? = st.heap[q]?
def q_met (M : q_M) (s : q_S) (args : List Value) (Q : q_P) : Prop := ∀ (l : Launch) (ε : q_E), Met l M.1.1 (q_ws M) (q_rm M) (va_Pc (args.map (q_c ε)) (fun U => q_W ε s U.heap ∧ q_Am ε U U.heap)) (q_Qc ε (q_AL ε s) Q) M.2.2.2.1 M.2.2.2.2 (q_AL ε s)
def q_Ctx (M : q_M) (p : Program) (l : Launch) (ε : q_E) (e : Env) (s : State) (m : MethodId) (args : Array Value) (below : List Frame) (meth : Method) (c : Code) : Prop :=
  p.tables.exec = Jvm.exec ∧ c.code = M.1.2.1 ∧ c.maxLocals = M.1.2.2.1 ∧ meth.sig.returnType = M.1.2.2.2 ∧ (∀ w ∈ q_gt, w.before args s = true) ∧ s.vm.findClass M.1.1.cls = some m.cls ∧ meth.locks = false ∧ (M.1.1.name = "<init>" → meth.name = "<init>") ∧ q_Am ε s s.heap ∧ ε.2.2.1 ≤ s.heap.size
/-- a method's end with Q -/
def q_fin (M : q_M) (Q : q_P) : q_F := fun ε A below args s => MQ below (q_Qc ε A Q) args s M.2.2.2.1 M.2.2.2.2 A
def q_lv (ε : q_E) (lv : List (Nat × Value)) : List (Nat × Value) := lv.map fun q => (q.1, q_c ε q.2)
def q_K (M : q_M) (σ : q_S) (kc ks pc : Nat) (lv : List (Nat × Value)) (st : List Value) (Q : q_F) : Prop :=
  ∀ (p : Program) (l : Launch) (ε : q_E) (e : Env) (s : State) (m : MethodId) (args : Array Value) (below : List Frame) (meth : Method) (c : Code) (H : Heap) (locs : List Loc) (ls : Array Slot) (A : Nat → Prop),
    q_Ctx M p l ε e s m args below meth c → (q_sees ε σ A ∧ (∀ q, s.heap.size ≤ q → A q) ∧ ∀ q, A q → ε.2.2.1 ≤ q) → q_W ε σ H → va_S A s.heap H locs → lv_has ls M.1.2.2.1 (q_lv ε lv) → W p l e (q_rm M) s m args below meth c H locs kc ks (Q ε A below args s) (F0 m pc ls (st.map (q_c ε)))
theorem q_cat (ε : q_E) (v : Value) : (q_c ε v).category = v.category := by cases v <;> rfl
theorem q_args (ε : q_E) : ∀ (vs : List Value) (i : Nat), lv_args i (vs.map (q_c ε)) = q_lv ε (lv_args i vs)
  | [], _ => rfl
  | v :: vs, i => by
    simp only [List.map_cons, lv_args, q_lv, q_cat]
    congr 1
    exact q_args ε vs _
theorem q_sl : ∀ (vs : List Value), (lg_sl vs).length = (vs.map fun v => if v.category = 2 then 2 else 1).sum
  | [] => rfl
  | v :: vs => by
    have := q_sl vs
    simp only [lg_sl, List.flatMap_cons, List.length_append, List.map_cons, List.sum_cons] at *
    rw [this]
    by_cases h : v.category = 2 <;> simp [h]
/-- a method's contract, out of the walk from its first instruction -/
theorem q_enter {M : q_M} {σ : q_S} {args : List Value} {Q : q_P} (hy : plainName M.1.1.cls = true) (hn : (args.map fun v => if v.category = 2 then 2 else 1).sum ≤ M.1.2.2.1)
    (k : q_K M σ 0 0 0 (lv_args 0 args) [] (q_fin M Q)) : q_met M σ args Q := by
  intro l ε
  refine Met.ofW (cc := M.1.2.1) (maxL := M.1.2.2.1) (ret := M.1.2.2.2) hy rfl ?_
  intro p e s m av below meth c s₁ B hml hv
  obtain ⟨rfl, hW, hAm⟩ := hv
  have hts := atoms_spec (ws := q_ws M) B.pre
  have hown : s.vm.findClass M.1.1.cls = some m.cls := findClass_of_methodNamed B.named
  have hin : meth.name = M.1.1.name := (name_of_methodNamed B.named B.method).1
  have hl := lv_entry (args.map (q_c ε)) (n := M.1.2.2.1) (by rw [q_sl, List.map_map]; simpa [Function.comp_def, q_cat] using hn)
  rw [q_args] at hl
  rw [lg_entry_eq]
  exact k p l ε e s m _ below meth c s.heap [] _ (q_AL ε σ) ⟨B.exec, B.bytes, hml, B.returns, fun w hw => hts w (List.mem_cons_of_mem _ hw), hown, B.notSynchronized, fun h => hin.trans h, hAm, by rw [hW.1]; omega⟩ ⟨fun i t hi ht => ⟨Nat.le_add_right _ _, fun j u hj e => by
      have : i = j := by omega
      subst this
      rw [hi] at hj
      cases hj
      exact ht⟩, fun q hq => ⟨by rw [hW.1] at hq; omega, fun j u hj e => absurd (List.getElem?_eq_some_iff.mp hj).1 (by rw [hW.1] at hq; omega)⟩, fun q hq => hq.1⟩ hW va_S.rf hl
theorem q_met.mono {M : q_M} {σ : q_S} {args : List Value} {Q Q' : q_P} (h : q_met M σ args Q) (hq : ∀ s r, Q s r → Q' s r) : q_met M σ args Q' := by
  intro l ε p e ha hc hk s m a below hf happ hP hKK
  obtain ⟨k, o, h1, h2, h3, ⟨⟨⟨s', r, e1, e2, e3⟩, e4⟩, e5⟩⟩ := h l ε p e ha hc hk s m a below hf happ hP hKK
  exact ⟨k, o, h1, h2, h3, ⟨⟨s', r, e1, hq _ _ e2, e3⟩, e4⟩, e5⟩
theorem q_K.mono {M : q_M} {σ : q_S} {kc ks pc : Nat} {lv : List (Nat × Value)} {st : List Value} {Q Q' : q_P} (h : q_K M σ kc ks pc lv st (q_fin M Q)) (hq : ∀ s r, Q s r → Q' s r) : q_K M σ kc ks pc lv st (q_fin M Q') := by
  intro p l ε e s m args below meth c H locs ls A C hA hW hS hl T hT X
  obtain ⟨t, h1, o, h2, h3, ⟨⟨s', r, e1, e2, e3⟩, e4⟩, h5⟩ := h p l ε e s m args below meth c H locs ls A C hA hW hS hl T hT X
  exact ⟨t, h1, o, h2, h3, ⟨⟨s', r, e1, hq _ _ e2, e3⟩, e4⟩, h5⟩
def q_lk (lv : List (Nat × Value)) (i : Nat) : Option Value := (lv.find? fun q => q.1 == i).map (·.2)
theorem q_lk_mem {lv : List (Nat × Value)} {i : Nat} {v : Value} (h : q_lk lv i = some v) : (i, v) ∈ lv := by
  unfold q_lk at h
  cases hf : lv.find? (fun q => q.1 == i) with
  | none => rw [hf] at h; cases h
  | some q =>
    rw [hf] at h
    have h1 := List.mem_of_find?_eq_some hf
    have h2 := List.find?_some hf
    simp only [beq_iff_eq] at h2
    cases h
    rw [← h2]
    exact h1
theorem q_at {ε : q_E} {ls : Array Slot} {n : Nat} {lv : List (Nat × Value)} (hl : lv_has ls n (q_lv ε lv)) {i : Nat} {v : Value} (h : q_lk lv i = some v) : ls[i]? = some (.val (q_c ε v)) :=
  hl.2.2 (i, q_c ε v) (List.mem_map.mpr ⟨(i, v), q_lk_mem h, rfl⟩)
/-- fewer locals, in any order -/
theorem q_sub {M : q_M} {σ : q_S} {kc ks pc : Nat} {lv lv' : List (Nat × Value)} {st : List Value} {Q : q_F} (h : ∀ q ∈ lv', q_lk lv q.1 = some q.2) (k : q_K M σ kc ks pc lv' st Q) : q_K M σ kc ks pc lv st Q := by
  intro p l ε e s m args below meth c H locs ls A C hA hW hS hl
  refine k p l ε e s m args below meth c H locs ls A C hA hW hS ⟨hl.1, hl.2.1, fun q hq => ?_⟩
  obtain ⟨q0, h0, rfl⟩ := List.mem_map.mp hq
  exact q_at hl (h q0 h0)
def q_st1 (lv : List (Nat × Value)) (i : Nat) (v : Value) : List (Nat × Value) := (i, v) :: lv.filter fun q => !(q.1 == i) && !(q.1 + 1 == i && q.2.category == 2)
def q_st2 (lv : List (Nat × Value)) (i : Nat) (v : Value) : List (Nat × Value) := (i, v) :: lv.filter fun q => !(q.1 == i) && (!(q.1 == i + 1) && !(q.1 + 1 == i && q.2.category == 2))
theorem q_st1_c (ε : q_E) (lv : List (Nat × Value)) (i : Nat) (v : Value) : (i, q_c ε v) :: (q_lv ε lv).filter (fun q => !(q.1 == i) && !(q.1 + 1 == i && q.2.category == 2)) = q_lv ε (q_st1 lv i v) := by
  simp only [q_st1, q_lv, List.map_cons, List.filter_map, Function.comp_def, q_cat]
theorem q_st2_c (ε : q_E) (lv : List (Nat × Value)) (i : Nat) (v : Value) : (i, q_c ε v) :: (q_lv ε lv).filter (fun q => !(q.1 == i) && (!(q.1 == i + 1) && !(q.1 + 1 == i && q.2.category == 2))) = q_lv ε (q_st2 lv i v) := by
  simp only [q_st2, q_lv, List.map_cons, List.filter_map, Function.comp_def, q_cat]
section QS
variable {M : q_M} {σ : q_S} {kc ks pc : Nat} {lv : List (Nat × Value)} {st : List Value} {Q : q_F}
theorem q_iconst {n : Int} (hd : decode M.1.2.1 pc = .ok (.iconst n, 1)) (k : q_K M σ kc ks (pc + 1) lv (.int (Int32.ofInt n) :: st) Q) : q_K M σ kc ks pc lv st Q := by
  intro p l ε e s m args below meth c H locs ls A C hA hW hS hl
  exact lv_iconst C.1 C.2.1 hd rfl (k p l ε e s m args below meth c H locs ls A C hA hW hS hl)
theorem q_bipush {n : Int} (hd : decode M.1.2.1 pc = .ok (.bipush n, 2)) (k : q_K M σ kc ks (pc + 2) lv (.int (Int8.ofInt n).toInt32 :: st) Q) : q_K M σ kc ks pc lv st Q := by
  intro p l ε e s m args below meth c H locs ls A C hA hW hS hl
  exact lv_bipush C.1 C.2.1 hd rfl (k p l ε e s m args below meth c H locs ls A C hA hW hS hl)
theorem q_sipush {n : Int} (hd : decode M.1.2.1 pc = .ok (.sipush n, 3)) (k : q_K M σ kc ks (pc + 3) lv (.int (Int16.ofInt n).toInt32 :: st) Q) : q_K M σ kc ks pc lv st Q := by
  intro p l ε e s m args below meth c H locs ls A C hA hW hS hl
  exact lv_sipush C.1 C.2.1 hd rfl (k p l ε e s m args below meth c H locs ls A C hA hW hS hl)
theorem q_lconst {n : Fin 2} (hd : decode M.1.2.1 pc = .ok (.lconst n, 1)) (k : q_K M σ kc ks (pc + 1) lv (.long (Int64.ofNat (n : Nat)) :: st) Q) : q_K M σ kc ks pc lv st Q := by
  intro p l ε e s m args below meth c H locs ls A C hA hW hS hl
  exact lv_lconst C.1 C.2.1 hd rfl (k p l ε e s m args below meth c H locs ls A C hA hW hS hl)
theorem q_iload_n {j : Fin 4} {x : Int32} (hd : decode M.1.2.1 pc = .ok (.iload_n j, 1)) (hk : q_lk lv j = some (.int x)) (k : q_K M σ kc ks (pc + 1) lv (.int x :: st) Q) : q_K M σ kc ks pc lv st Q := by
  intro p l ε e s m args below meth c H locs ls A C hA hW hS hl
  exact lv_iload_n C.1 C.2.1 hd rfl (q_at hl hk) (k p l ε e s m args below meth c H locs ls A C hA hW hS hl)
theorem q_iload {i : Nat} {x : Int32} (hd : decode M.1.2.1 pc = .ok (.iload i, 2)) (hk : q_lk lv i = some (.int x)) (k : q_K M σ kc ks (pc + 2) lv (.int x :: st) Q) : q_K M σ kc ks pc lv st Q := by
  intro p l ε e s m args below meth c H locs ls A C hA hW hS hl
  exact lv_iload C.1 C.2.1 hd (q_at hl hk) (k p l ε e s m args below meth c H locs ls A C hA hW hS hl)
theorem q_lload_n {j : Fin 4} {x : Int64} (hd : decode M.1.2.1 pc = .ok (.lload_n j, 1)) (hk : q_lk lv j = some (.long x)) (k : q_K M σ kc ks (pc + 1) lv (.long x :: st) Q) : q_K M σ kc ks pc lv st Q := by
  intro p l ε e s m args below meth c H locs ls A C hA hW hS hl
  exact lv_lload_n C.1 C.2.1 hd rfl (q_at hl hk) (k p l ε e s m args below meth c H locs ls A C hA hW hS hl)
theorem q_lload {i : Nat} {x : Int64} (hd : decode M.1.2.1 pc = .ok (.lload i, 2)) (hk : q_lk lv i = some (.long x)) (k : q_K M σ kc ks (pc + 2) lv (.long x :: st) Q) : q_K M σ kc ks pc lv st Q := by
  intro p l ε e s m args below meth c H locs ls A C hA hW hS hl
  exact lv_lload C.1 C.2.1 hd (q_at hl hk) (k p l ε e s m args below meth c H locs ls A C hA hW hS hl)
theorem q_aload_n {j : Fin 4} {x : Nat} (hd : decode M.1.2.1 pc = .ok (.aload_n j, 1)) (hk : q_lk lv j = some (.ref x)) (k : q_K M σ kc ks (pc + 1) lv (.ref x :: st) Q) : q_K M σ kc ks pc lv st Q := by
  intro p l ε e s m args below meth c H locs ls A C hA hW hS hl
  exact lv_aload_n C.1 C.2.1 hd rfl (q_at hl hk) (k p l ε e s m args below meth c H locs ls A C hA hW hS hl)
theorem q_aload {i : Nat} {x : Nat} (hd : decode M.1.2.1 pc = .ok (.aload i, 2)) (hk : q_lk lv i = some (.ref x)) (k : q_K M σ kc ks (pc + 2) lv (.ref x :: st) Q) : q_K M σ kc ks pc lv st Q := by
  intro p l ε e s m args below meth c H locs ls A C hA hW hS hl
  exact lv_aload C.1 C.2.1 hd (q_at hl hk) (k p l ε e s m args below meth c H locs ls A C hA hW hS hl)
theorem q_istore_n {j : Fin 4} {x : Int32} (hd : decode M.1.2.1 pc = .ok (.istore_n j, 1)) (hn : (j : Nat) < M.1.2.2.1) (k : q_K M σ kc ks (pc + 1) (q_st1 lv j (.int x)) st Q) : q_K M σ kc ks pc lv (.int x :: st) Q := by
  intro p l ε e s m args below meth c H locs ls A C hA hW hS hl
  exact lv_istore_n C.1 C.2.1 hd rfl hl hn (q_st1_c ε lv j (.int x)) (fun ls hl => (k p l ε e s m args below meth c H locs ls A C hA hW hS hl))
theorem q_istore {i : Nat} {x : Int32} (hd : decode M.1.2.1 pc = .ok (.istore i, 2)) (hn : i < M.1.2.2.1) (k : q_K M σ kc ks (pc + 2) (q_st1 lv i (.int x)) st Q) : q_K M σ kc ks pc lv (.int x :: st) Q := by
  intro p l ε e s m args below meth c H locs ls A C hA hW hS hl
  exact lv_istore C.1 C.2.1 hd hl hn (q_st1_c ε lv i (.int x)) (fun ls hl => (k p l ε e s m args below meth c H locs ls A C hA hW hS hl))
theorem q_lstore_n {j : Fin 4} {x : Int64} (hd : decode M.1.2.1 pc = .ok (.lstore_n j, 1)) (hn : (j : Nat) + 1 < M.1.2.2.1) (k : q_K M σ kc ks (pc + 1) (q_st2 lv j (.long x)) st Q) : q_K M σ kc ks pc lv (.long x :: st) Q := by
  intro p l ε e s m args below meth c H locs ls A C hA hW hS hl
  exact lv_lstore_n C.1 C.2.1 hd rfl hl hn (q_st2_c ε lv j (.long x)) (fun ls hl => (k p l ε e s m args below meth c H locs ls A C hA hW hS hl))
theorem q_lstore {i : Nat} {x : Int64} (hd : decode M.1.2.1 pc = .ok (.lstore i, 2)) (hn : i + 1 < M.1.2.2.1) (k : q_K M σ kc ks (pc + 2) (q_st2 lv i (.long x)) st Q) : q_K M σ kc ks pc lv (.long x :: st) Q := by
  intro p l ε e s m args below meth c H locs ls A C hA hW hS hl
  exact lv_lstore C.1 C.2.1 hd hl hn (q_st2_c ε lv i (.long x)) (fun ls hl => (k p l ε e s m args below meth c H locs ls A C hA hW hS hl))
theorem q_astore_n {j : Fin 4} {x : Nat} (hd : decode M.1.2.1 pc = .ok (.astore_n j, 1)) (hn : (j : Nat) < M.1.2.2.1) (k : q_K M σ kc ks (pc + 1) (q_st1 lv j (.ref x)) st Q) : q_K M σ kc ks pc lv (.ref x :: st) Q := by
  intro p l ε e s m args below meth c H locs ls A C hA hW hS hl
  exact lv_astore_n C.1 C.2.1 hd rfl hl hn (q_st1_c ε lv j (.ref x)) (fun ls hl => (k p l ε e s m args below meth c H locs ls A C hA hW hS hl))
theorem q_astore {i : Nat} {x : Nat} (hd : decode M.1.2.1 pc = .ok (.astore i, 2)) (hn : i < M.1.2.2.1) (k : q_K M σ kc ks (pc + 2) (q_st1 lv i (.ref x)) st Q) : q_K M σ kc ks pc lv (.ref x :: st) Q := by
  intro p l ε e s m args below meth c H locs ls A C hA hW hS hl
  exact lv_astore C.1 C.2.1 hd hl hn (q_st1_c ε lv i (.ref x)) (fun ls hl => (k p l ε e s m args below meth c H locs ls A C hA hW hS hl))
theorem q_iinc {i : Nat} {n : Int} {x : Int32} (hd : decode M.1.2.1 pc = .ok (.iinc i n, 3)) (hk : q_lk lv i = some (.int x)) (hn : i < M.1.2.2.1) (k : q_K M σ kc ks (pc + 3) (q_st1 lv i (.int (x + Int32.ofInt n))) st Q) : q_K M σ kc ks pc lv st Q := by
  intro p l ε e s m args below meth c H locs ls A C hA hW hS hl
  have hm : (i, Value.int x) ∈ q_lv ε lv := List.mem_map.mpr ⟨(i, .int x), q_lk_mem hk, rfl⟩
  obtain ⟨j, hj⟩ := List.getElem?_of_mem hm
  exact lv_iinc C.1 C.2.1 hd hl hj rfl hn (q_st1_c ε lv i (.int (x + Int32.ofInt n))) (fun ls hl => (k p l ε e s m args below meth c H locs ls A C hA hW hS hl))
theorem q_iadd {x y : Int32} (hd : decode M.1.2.1 pc = .ok (.iadd, 1)) (k : q_K M σ kc ks (pc + 1) lv (.int (x + y) :: st) Q) : q_K M σ kc ks pc lv (.int y :: .int x :: st) Q := by
  intro p l ε e s m args below meth c H locs ls A C hA hW hS hl
  exact lv_iadd C.1 C.2.1 hd (k p l ε e s m args below meth c H locs ls A C hA hW hS hl)
theorem q_isub {x y : Int32} (hd : decode M.1.2.1 pc = .ok (.isub, 1)) (k : q_K M σ kc ks (pc + 1) lv (.int (x - y) :: st) Q) : q_K M σ kc ks pc lv (.int y :: .int x :: st) Q := by
  intro p l ε e s m args below meth c H locs ls A C hA hW hS hl
  exact lv_isub C.1 C.2.1 hd (k p l ε e s m args below meth c H locs ls A C hA hW hS hl)
theorem q_imul {x y : Int32} (hd : decode M.1.2.1 pc = .ok (.imul, 1)) (k : q_K M σ kc ks (pc + 1) lv (.int (x * y) :: st) Q) : q_K M σ kc ks pc lv (.int y :: .int x :: st) Q := by
  intro p l ε e s m args below meth c H locs ls A C hA hW hS hl
  exact lv_imul C.1 C.2.1 hd (k p l ε e s m args below meth c H locs ls A C hA hW hS hl)
theorem q_iand {x y : Int32} (hd : decode M.1.2.1 pc = .ok (.iand, 1)) (k : q_K M σ kc ks (pc + 1) lv (.int (x &&& y) :: st) Q) : q_K M σ kc ks pc lv (.int y :: .int x :: st) Q := by
  intro p l ε e s m args below meth c H locs ls A C hA hW hS hl
  exact lv_iand C.1 C.2.1 hd (k p l ε e s m args below meth c H locs ls A C hA hW hS hl)
theorem q_ior {x y : Int32} (hd : decode M.1.2.1 pc = .ok (.ior, 1)) (k : q_K M σ kc ks (pc + 1) lv (.int (x ||| y) :: st) Q) : q_K M σ kc ks pc lv (.int y :: .int x :: st) Q := by
  intro p l ε e s m args below meth c H locs ls A C hA hW hS hl
  exact lv_ior C.1 C.2.1 hd (k p l ε e s m args below meth c H locs ls A C hA hW hS hl)
theorem q_ixor {x y : Int32} (hd : decode M.1.2.1 pc = .ok (.ixor, 1)) (k : q_K M σ kc ks (pc + 1) lv (.int (x ^^^ y) :: st) Q) : q_K M σ kc ks pc lv (.int y :: .int x :: st) Q := by
  intro p l ε e s m args below meth c H locs ls A C hA hW hS hl
  exact lv_ixor C.1 C.2.1 hd (k p l ε e s m args below meth c H locs ls A C hA hW hS hl)
theorem q_ladd {x y : Int64} (hd : decode M.1.2.1 pc = .ok (.ladd, 1)) (k : q_K M σ kc ks (pc + 1) lv (.long (x + y) :: st) Q) : q_K M σ kc ks pc lv (.long y :: .long x :: st) Q := by
  intro p l ε e s m args below meth c H locs ls A C hA hW hS hl
  exact lv_ladd C.1 C.2.1 hd (k p l ε e s m args below meth c H locs ls A C hA hW hS hl)
theorem q_lsub {x y : Int64} (hd : decode M.1.2.1 pc = .ok (.lsub, 1)) (k : q_K M σ kc ks (pc + 1) lv (.long (x - y) :: st) Q) : q_K M σ kc ks pc lv (.long y :: .long x :: st) Q := by
  intro p l ε e s m args below meth c H locs ls A C hA hW hS hl
  exact lv_lsub C.1 C.2.1 hd (k p l ε e s m args below meth c H locs ls A C hA hW hS hl)
theorem q_lmul {x y : Int64} (hd : decode M.1.2.1 pc = .ok (.lmul, 1)) (k : q_K M σ kc ks (pc + 1) lv (.long (x * y) :: st) Q) : q_K M σ kc ks pc lv (.long y :: .long x :: st) Q := by
  intro p l ε e s m args below meth c H locs ls A C hA hW hS hl
  exact lv_lmul C.1 C.2.1 hd (k p l ε e s m args below meth c H locs ls A C hA hW hS hl)
theorem q_land {x y : Int64} (hd : decode M.1.2.1 pc = .ok (.land, 1)) (k : q_K M σ kc ks (pc + 1) lv (.long (x &&& y) :: st) Q) : q_K M σ kc ks pc lv (.long y :: .long x :: st) Q := by
  intro p l ε e s m args below meth c H locs ls A C hA hW hS hl
  exact lv_land C.1 C.2.1 hd (k p l ε e s m args below meth c H locs ls A C hA hW hS hl)
theorem q_lor {x y : Int64} (hd : decode M.1.2.1 pc = .ok (.lor, 1)) (k : q_K M σ kc ks (pc + 1) lv (.long (x ||| y) :: st) Q) : q_K M σ kc ks pc lv (.long y :: .long x :: st) Q := by
  intro p l ε e s m args below meth c H locs ls A C hA hW hS hl
  exact lv_lor C.1 C.2.1 hd (k p l ε e s m args below meth c H locs ls A C hA hW hS hl)
theorem q_lxor {x y : Int64} (hd : decode M.1.2.1 pc = .ok (.lxor, 1)) (k : q_K M σ kc ks (pc + 1) lv (.long (x ^^^ y) :: st) Q) : q_K M σ kc ks pc lv (.long y :: .long x :: st) Q := by
  intro p l ε e s m args below meth c H locs ls A C hA hW hS hl
  exact lv_lxor C.1 C.2.1 hd (k p l ε e s m args below meth c H locs ls A C hA hW hS hl)
theorem q_lneg {x : Int64} (hd : decode M.1.2.1 pc = .ok (.lneg, 1)) (k : q_K M σ kc ks (pc + 1) lv (.long (-x) :: st) Q) : q_K M σ kc ks pc lv (.long x :: st) Q := by
  intro p l ε e s m args below meth c H locs ls A C hA hW hS hl
  exact lv_lneg C.1 C.2.1 hd (k p l ε e s m args below meth c H locs ls A C hA hW hS hl)
theorem q_ishl {x y : Int32} (hd : decode M.1.2.1 pc = .ok (.ishl, 1)) (k : q_K M σ kc ks (pc + 1) lv (.int (x <<< (y &&& 31)) :: st) Q) : q_K M σ kc ks pc lv (.int y :: .int x :: st) Q := by
  intro p l ε e s m args below meth c H locs ls A C hA hW hS hl
  exact lv_ishl C.1 C.2.1 hd (k p l ε e s m args below meth c H locs ls A C hA hW hS hl)
theorem q_ishr {x y : Int32} (hd : decode M.1.2.1 pc = .ok (.ishr, 1)) (k : q_K M σ kc ks (pc + 1) lv (.int (x >>> (y &&& 31)) :: st) Q) : q_K M σ kc ks pc lv (.int y :: .int x :: st) Q := by
  intro p l ε e s m args below meth c H locs ls A C hA hW hS hl
  exact lv_ishr C.1 C.2.1 hd (k p l ε e s m args below meth c H locs ls A C hA hW hS hl)
theorem q_iushr {x y : Int32} (hd : decode M.1.2.1 pc = .ok (.iushr, 1)) (k : q_K M σ kc ks (pc + 1) lv (.int ((x.toUInt32 >>> (y.toUInt32 &&& Int32.toUInt32 31)).toInt32) :: st) Q) : q_K M σ kc ks pc lv (.int y :: .int x :: st) Q := by
  intro p l ε e s m args below meth c H locs ls A C hA hW hS hl
  exact lv_iushr C.1 C.2.1 hd rfl (k p l ε e s m args below meth c H locs ls A C hA hW hS hl)
theorem q_lushr {x : Int64} {y : Int32} (hd : decode M.1.2.1 pc = .ok (.lushr, 1)) (k : q_K M σ kc ks (pc + 1) lv (.long ((x.toUInt64 >>> (y.toInt64.toUInt64 &&& Int64.toUInt64 63)).toInt64) :: st) Q) : q_K M σ kc ks pc lv (.int y :: .long x :: st) Q := by
  intro p l ε e s m args below meth c H locs ls A C hA hW hS hl
  exact lv_lushr C.1 C.2.1 hd rfl (k p l ε e s m args below meth c H locs ls A C hA hW hS hl)
theorem q_lshl {x : Int64} {y : Int32} (hd : decode M.1.2.1 pc = .ok (.lshl, 1)) (k : q_K M σ kc ks (pc + 1) lv (.long (x <<< (y.toInt64 &&& 63)) :: st) Q) : q_K M σ kc ks pc lv (.int y :: .long x :: st) Q := by
  intro p l ε e s m args below meth c H locs ls A C hA hW hS hl
  exact lv_lshl C.1 C.2.1 hd rfl (k p l ε e s m args below meth c H locs ls A C hA hW hS hl)
theorem q_lshr {x : Int64} {y : Int32} (hd : decode M.1.2.1 pc = .ok (.lshr, 1)) (k : q_K M σ kc ks (pc + 1) lv (.long (x >>> (y.toInt64 &&& 63)) :: st) Q) : q_K M σ kc ks pc lv (.int y :: .long x :: st) Q := by
  intro p l ε e s m args below meth c H locs ls A C hA hW hS hl
  exact lv_lshr C.1 C.2.1 hd rfl (k p l ε e s m args below meth c H locs ls A C hA hW hS hl)
theorem q_i2l {x : Int32} (hd : decode M.1.2.1 pc = .ok (.i2l, 1)) (k : q_K M σ kc ks (pc + 1) lv (.long x.toInt64 :: st) Q) : q_K M σ kc ks pc lv (.int x :: st) Q := by
  intro p l ε e s m args below meth c H locs ls A C hA hW hS hl
  exact lv_i2l C.1 C.2.1 hd rfl (k p l ε e s m args below meth c H locs ls A C hA hW hS hl)
theorem q_l2i {x : Int64} (hd : decode M.1.2.1 pc = .ok (.l2i, 1)) (k : q_K M σ kc ks (pc + 1) lv (.int x.toInt32 :: st) Q) : q_K M σ kc ks pc lv (.long x :: st) Q := by
  intro p l ε e s m args below meth c H locs ls A C hA hW hS hl
  exact lv_l2i C.1 C.2.1 hd rfl (k p l ε e s m args below meth c H locs ls A C hA hW hS hl)
theorem q_i2b {x : Int32} (hd : decode M.1.2.1 pc = .ok (.i2b, 1)) (k : q_K M σ kc ks (pc + 1) lv (.int x.toInt8.toInt32 :: st) Q) : q_K M σ kc ks pc lv (.int x :: st) Q := by
  intro p l ε e s m args below meth c H locs ls A C hA hW hS hl
  exact lv_i2b C.1 C.2.1 hd rfl (k p l ε e s m args below meth c H locs ls A C hA hW hS hl)
theorem q_dup {v : Value} (hd : decode M.1.2.1 pc = .ok (.dup, 1)) (hv : v.category = 1) (k : q_K M σ kc ks (pc + 1) lv (v :: v :: st) Q) : q_K M σ kc ks pc lv (v :: st) Q := by
  intro p l ε e s m args below meth c H locs ls A C hA hW hS hl
  exact lv_dup C.1 C.2.1 hd ((q_cat ε v).trans hv) (k p l ε e s m args below meth c H locs ls A C hA hW hS hl)
theorem q_dup_x1 {v u : Value} (hd : decode M.1.2.1 pc = .ok (.dup_x1, 1)) (hv : v.category = 1) (hu : u.category = 1) (k : q_K M σ kc ks (pc + 1) lv (v :: u :: v :: st) Q) : q_K M σ kc ks pc lv (v :: u :: st) Q := by
  intro p l ε e s m args below meth c H locs ls A C hA hW hS hl
  exact lv_dup_x1 C.1 C.2.1 hd ((q_cat ε v).trans hv) ((q_cat ε u).trans hu) (k p l ε e s m args below meth c H locs ls A C hA hW hS hl)
theorem q_dup2 {v u : Value} (hd : decode M.1.2.1 pc = .ok (.dup2, 1)) (hv : v.category = 1) (hu : u.category = 1) (k : q_K M σ kc ks (pc + 1) lv (v :: u :: v :: u :: st) Q) : q_K M σ kc ks pc lv (v :: u :: st) Q := by
  intro p l ε e s m args below meth c H locs ls A C hA hW hS hl
  exact lv_dup2_11 C.1 C.2.1 hd ((q_cat ε v).trans hv) ((q_cat ε u).trans hu) (k p l ε e s m args below meth c H locs ls A C hA hW hS hl)
theorem q_pop {v : Value} (hd : decode M.1.2.1 pc = .ok (.pop, 1)) (hv : v.category = 1) (k : q_K M σ kc ks (pc + 1) lv st Q) : q_K M σ kc ks pc lv (v :: st) Q := by
  intro p l ε e s m args below meth c H locs ls A C hA hW hS hl
  exact lv_pop C.1 C.2.1 hd ((q_cat ε v).trans hv) (k p l ε e s m args below meth c H locs ls A C hA hW hS hl)
theorem q_goto {off : Int} {tgt : Nat} (hd : decode M.1.2.1 pc = .ok (.goto off, 3)) (ht : (pc : Int) + off = (tgt : Int)) (k : q_K M σ kc ks tgt lv st Q) : q_K M σ kc ks pc lv st Q := by
  intro p l ε e s m args below meth c H locs ls A C hA hW hS hl
  exact lv_goto C.1 C.2.1 hd ht (k p l ε e s m args below meth c H locs ls A C hA hW hS hl)
theorem q_if_eq {x : Int32} {off : Int} {tgt : Nat} (hd : decode M.1.2.1 pc = .ok (.ifCond .eq off, 3)) (ht : (pc : Int) + off = (tgt : Int)) (kt : x = 0 → q_K M σ kc ks tgt lv st Q) (kf : ¬ x = 0 → q_K M σ kc ks (pc + 3) lv st Q) : q_K M σ kc ks pc lv (.int x :: st) Q := by
  intro p l ε e s m args below meth c H locs ls A C hA hW hS hl
  exact lv_if_eq C.1 C.2.1 hd ht (fun h => kt h p l ε e s m args below meth c H locs ls A C hA hW hS hl) (fun h => kf h p l ε e s m args below meth c H locs ls A C hA hW hS hl)
theorem q_icmp_eq {x y : Int32} {off : Int} {tgt : Nat} (hd : decode M.1.2.1 pc = .ok (.if_icmp .eq off, 3)) (ht : (pc : Int) + off = (tgt : Int)) (kt : x = y → q_K M σ kc ks tgt lv st Q) (kf : ¬ x = y → q_K M σ kc ks (pc + 3) lv st Q) : q_K M σ kc ks pc lv (.int y :: .int x :: st) Q := by
  intro p l ε e s m args below meth c H locs ls A C hA hW hS hl
  exact lv_icmp_eq C.1 C.2.1 hd ht (fun h => kt h p l ε e s m args below meth c H locs ls A C hA hW hS hl) (fun h => kf h p l ε e s m args below meth c H locs ls A C hA hW hS hl)
theorem q_if_ne {x : Int32} {off : Int} {tgt : Nat} (hd : decode M.1.2.1 pc = .ok (.ifCond .ne off, 3)) (ht : (pc : Int) + off = (tgt : Int)) (kt : x ≠ 0 → q_K M σ kc ks tgt lv st Q) (kf : x = 0 → q_K M σ kc ks (pc + 3) lv st Q) : q_K M σ kc ks pc lv (.int x :: st) Q := by
  intro p l ε e s m args below meth c H locs ls A C hA hW hS hl
  exact lv_if_ne C.1 C.2.1 hd ht (fun h => kt h p l ε e s m args below meth c H locs ls A C hA hW hS hl) (fun h => kf h p l ε e s m args below meth c H locs ls A C hA hW hS hl)
theorem q_icmp_ne {x y : Int32} {off : Int} {tgt : Nat} (hd : decode M.1.2.1 pc = .ok (.if_icmp .ne off, 3)) (ht : (pc : Int) + off = (tgt : Int)) (kt : x ≠ y → q_K M σ kc ks tgt lv st Q) (kf : x = y → q_K M σ kc ks (pc + 3) lv st Q) : q_K M σ kc ks pc lv (.int y :: .int x :: st) Q := by
  intro p l ε e s m args below meth c H locs ls A C hA hW hS hl
  exact lv_icmp_ne C.1 C.2.1 hd ht (fun h => kt h p l ε e s m args below meth c H locs ls A C hA hW hS hl) (fun h => kf h p l ε e s m args below meth c H locs ls A C hA hW hS hl)
theorem q_if_lt {x : Int32} {off : Int} {tgt : Nat} (hd : decode M.1.2.1 pc = .ok (.ifCond .lt off, 3)) (ht : (pc : Int) + off = (tgt : Int)) (kt : x < 0 → q_K M σ kc ks tgt lv st Q) (kf : ¬ x < 0 → q_K M σ kc ks (pc + 3) lv st Q) : q_K M σ kc ks pc lv (.int x :: st) Q := by
  intro p l ε e s m args below meth c H locs ls A C hA hW hS hl
  exact lv_if_lt C.1 C.2.1 hd ht (fun h => kt h p l ε e s m args below meth c H locs ls A C hA hW hS hl) (fun h => kf h p l ε e s m args below meth c H locs ls A C hA hW hS hl)
theorem q_icmp_lt {x y : Int32} {off : Int} {tgt : Nat} (hd : decode M.1.2.1 pc = .ok (.if_icmp .lt off, 3)) (ht : (pc : Int) + off = (tgt : Int)) (kt : x < y → q_K M σ kc ks tgt lv st Q) (kf : ¬ x < y → q_K M σ kc ks (pc + 3) lv st Q) : q_K M σ kc ks pc lv (.int y :: .int x :: st) Q := by
  intro p l ε e s m args below meth c H locs ls A C hA hW hS hl
  exact lv_icmp_lt C.1 C.2.1 hd ht (fun h => kt h p l ε e s m args below meth c H locs ls A C hA hW hS hl) (fun h => kf h p l ε e s m args below meth c H locs ls A C hA hW hS hl)
theorem q_if_ge {x : Int32} {off : Int} {tgt : Nat} (hd : decode M.1.2.1 pc = .ok (.ifCond .ge off, 3)) (ht : (pc : Int) + off = (tgt : Int)) (kt : 0 ≤ x → q_K M σ kc ks tgt lv st Q) (kf : ¬ 0 ≤ x → q_K M σ kc ks (pc + 3) lv st Q) : q_K M σ kc ks pc lv (.int x :: st) Q := by
  intro p l ε e s m args below meth c H locs ls A C hA hW hS hl
  exact lv_if_ge C.1 C.2.1 hd ht (fun h => kt h p l ε e s m args below meth c H locs ls A C hA hW hS hl) (fun h => kf h p l ε e s m args below meth c H locs ls A C hA hW hS hl)
theorem q_icmp_ge {x y : Int32} {off : Int} {tgt : Nat} (hd : decode M.1.2.1 pc = .ok (.if_icmp .ge off, 3)) (ht : (pc : Int) + off = (tgt : Int)) (kt : y ≤ x → q_K M σ kc ks tgt lv st Q) (kf : ¬ y ≤ x → q_K M σ kc ks (pc + 3) lv st Q) : q_K M σ kc ks pc lv (.int y :: .int x :: st) Q := by
  intro p l ε e s m args below meth c H locs ls A C hA hW hS hl
  exact lv_icmp_ge C.1 C.2.1 hd ht (fun h => kt h p l ε e s m args below meth c H locs ls A C hA hW hS hl) (fun h => kf h p l ε e s m args below meth c H locs ls A C hA hW hS hl)
theorem q_if_gt {x : Int32} {off : Int} {tgt : Nat} (hd : decode M.1.2.1 pc = .ok (.ifCond .gt off, 3)) (ht : (pc : Int) + off = (tgt : Int)) (kt : 0 < x → q_K M σ kc ks tgt lv st Q) (kf : ¬ 0 < x → q_K M σ kc ks (pc + 3) lv st Q) : q_K M σ kc ks pc lv (.int x :: st) Q := by
  intro p l ε e s m args below meth c H locs ls A C hA hW hS hl
  exact lv_if_gt C.1 C.2.1 hd ht (fun h => kt h p l ε e s m args below meth c H locs ls A C hA hW hS hl) (fun h => kf h p l ε e s m args below meth c H locs ls A C hA hW hS hl)
theorem q_icmp_gt {x y : Int32} {off : Int} {tgt : Nat} (hd : decode M.1.2.1 pc = .ok (.if_icmp .gt off, 3)) (ht : (pc : Int) + off = (tgt : Int)) (kt : y < x → q_K M σ kc ks tgt lv st Q) (kf : ¬ y < x → q_K M σ kc ks (pc + 3) lv st Q) : q_K M σ kc ks pc lv (.int y :: .int x :: st) Q := by
  intro p l ε e s m args below meth c H locs ls A C hA hW hS hl
  exact lv_icmp_gt C.1 C.2.1 hd ht (fun h => kt h p l ε e s m args below meth c H locs ls A C hA hW hS hl) (fun h => kf h p l ε e s m args below meth c H locs ls A C hA hW hS hl)
theorem q_if_le {x : Int32} {off : Int} {tgt : Nat} (hd : decode M.1.2.1 pc = .ok (.ifCond .le off, 3)) (ht : (pc : Int) + off = (tgt : Int)) (kt : x ≤ 0 → q_K M σ kc ks tgt lv st Q) (kf : ¬ x ≤ 0 → q_K M σ kc ks (pc + 3) lv st Q) : q_K M σ kc ks pc lv (.int x :: st) Q := by
  intro p l ε e s m args below meth c H locs ls A C hA hW hS hl
  exact lv_if_le C.1 C.2.1 hd ht (fun h => kt h p l ε e s m args below meth c H locs ls A C hA hW hS hl) (fun h => kf h p l ε e s m args below meth c H locs ls A C hA hW hS hl)
theorem q_icmp_le {x y : Int32} {off : Int} {tgt : Nat} (hd : decode M.1.2.1 pc = .ok (.if_icmp .le off, 3)) (ht : (pc : Int) + off = (tgt : Int)) (kt : x ≤ y → q_K M σ kc ks tgt lv st Q) (kf : ¬ x ≤ y → q_K M σ kc ks (pc + 3) lv st Q) : q_K M σ kc ks pc lv (.int y :: .int x :: st) Q := by
  intro p l ε e s m args below meth c H locs ls A C hA hW hS hl
  exact lv_icmp_le C.1 C.2.1 hd ht (fun h => kt h p l ε e s m args below meth c H locs ls A C hA hW hS hl) (fun h => kf h p l ε e s m args below meth c H locs ls A C hA hW hS hl)
end QS
