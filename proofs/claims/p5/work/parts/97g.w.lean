/-! THE REFERENCE: isHint, adds, findHints -/
theorem NEW.gen {fs : List (Nat × Int)} {cs : List Nat} {s0 s s' : ST} {b p c its : Int} (h : NEW s0 b p c its s) (hm : md fs cs s s') (h1 : (fs.all fun q => decide (q.1 ∉ 182 :: bankCells)) = true) (h2 : (cs.all fun a => decide (a ∉ 182 :: bankCells)) = true) : NEW s0 b p c its s' := by
  have k : ∀ a, a ∈ 182 :: bankCells → s'.1 a = s.1 a := fun a ha => funext fun z => (hm a z (fun q => of_decide_eq_true (List.all_eq_true.mp h1 _ q) ha) (fun q => of_decide_eq_true (List.all_eq_true.mp h2 _ q) ha)).1
  unfold NEW PO at *
  rw [k 142 (by decide), k 143 (by decide), k 144 (by decide), k 145 (by decide), k 146 (by decide), k 149 (by decide), k 152 (by decide), k 153 (by decide), k 154 (by decide), k 155 (by decide), k 156 (by decide), k 182 (by decide)]
  exact h
/-- what is laid stays so when bank b keeps its program -/
theorem LD.wq {fs : List (Nat × Int)} {cs : List Nat} {s s' : ST} (h : LD s) (hb : 0 ≤ s.1 139 28 ∧ s.1 139 28 ≤ 1) (W : WF s (s.1 139 28)) (q : WQ s (s.1 139 28) s' (s.1 139 28)) (hm : md fs cs s s') (h1 : (fs.all fun q => decide (q.1 ∉ [161, 162, 163, 168, 169, 170, 171, 172, 173]) && decide (q ∉ [((139 : Nat), (28 : Int)), (139, 46), (139, 47), (139, 48), (139, 49)])) = true) (h2 : (cs.all fun a => decide (a ∉ [139, 161, 162, 163, 168, 169, 170, 171, 172, 173])) = true) : LD s' := by
  have cell : ∀ a, a ∈ [161, 162, 163, 168, 169, 170, 171, 172, 173] → ∀ t, s'.1 a t = s.1 a t := fun a ha t => (hm a t (fun q => by
    have := List.all_eq_true.mp h1 _ q
    rw [Bool.and_eq_true, decide_eq_true_eq, decide_eq_true_eq] at this
    exact this.1 ha) (fun q => (of_decide_eq_true (List.all_eq_true.mp h2 _ q)) (List.mem_cons_of_mem _ ha))).1
  have fld : ∀ f, (139, f) ∈ [((139 : Nat), (28 : Int)), (139, 46), (139, 47), (139, 48), (139, 49)] → s'.1 139 f = s.1 139 f := fun f hf => (hm 139 f (fun q => by
    have := List.all_eq_true.mp h1 _ q
    rw [Bool.and_eq_true, decide_eq_true_eq, decide_eq_true_eq] at this
    exact this.2 hf) (fun q => (of_decide_eq_true (List.all_eq_true.mp h2 _ q)) (by decide))).1
  intro e
  rw [fld 49 (by decide), fld 28 (by decide)] at e
  obtain ⟨⟨t1, t2, t3, t4⟩, a1, a2, a3⟩ := h e
  have nn := W.nn
  obtain ⟨⟨q1, q2, q3⟩, q4, q5, q6⟩ := q
  rw [fld 28 (by decide)]
  unfold TI LYI
  rw [fld 46 (by decide), fld 47 (by decide), fld 48 (by decide), q1, q2, bins_eq (fun t => cell 161 (by decide) t)]
  refine ⟨⟨⟨t1.1, fun t a b => ?_⟩, t2, t3, fun k a b => ?_⟩, a1, fun d d0 d1 => ?_, fun l l0 l1 => ?_⟩
  · rw [cell 161 (by decide), cell 162 (by decide), cell 163 (by decide)]; exact t1.2 t a b
  · rw [cell 168 (by decide), cell 169 (by decide)]; exact t4 k a b
  · rw [cell 170 (by decide), q4 d d0 (by omega)]; exact a2 d d0 d1
  · obtain ⟨c1, c2, c3, c4⟩ := a3 l l0 l1
    have e1 := (q6 (s.1 170 l) c1.1 (by omega)).1.2.2.1
    rw [cell 170 (by decide) l, cell 171 (by decide), cell 172 (by decide), cell 173 (by decide), e1]
    refine ⟨c1, c2, c3, ?_⟩
    rcases c4 with ⟨d, d0, d1, d2⟩ | ⟨u1, u2, u3⟩
    · exact Or.inl ⟨d, d0, d1, by rw [q4 d d0 (by omega)]; exact d2⟩
    · have c5 := (a3 (s.1 171 l) u1.1 (by omega)).1
      have e2 := (q6 (s.1 170 (s.1 171 l)) c5.1 (by omega)).1.2.2.1
      have e3 := (q6 (s.1 170 l - 1) (by omega) (by omega)).1.1
      rw [cell 170 (by decide), e2, e3]
      exact Or.inr ⟨u1, u2, u3⟩
/-- all banks but 2 keep their programs -/
def KB (s s' : ST) : Prop := ∀ x, (0 ≤ x ∧ x ≤ 1) ∨ (3 ≤ x ∧ x ≤ 5) → WX s x s' x
theorem KB.tr {s s' s'' : ST} (h : KB s s') (k : KB s' s'') : KB s s'' := fun x hx => (h x hx).tr (k x hx)
def ihC : List Nat := [142, 143, 144, 145, 146, 147, 148, 149, 150, 151, 152, 153, 154, 155, 156, 157, 158, 161, 162, 163, 164, 165, 166, 167, 168, 169, 170, 171, 172, 173, 182, 183]
theorem BK.wx {fs : List (Nat × Int)} {cs : List Nat} {s s' : ST} (h : BK s) (kb : KB s s') (hm : md fs cs s s') (h1 : decide (((139 : Nat), (28 : Int)) ∉ fs) = true) (h2 : decide (139 ∉ cs) = true) : BK s' := by
  have e := hm.f 139 28 h1 h2
  refine ⟨by rw [e]; exact h.1, by rw [e]; exact h.2.copy (kb _ (Or.inl h.1)).1 (by have := h.1; omega)⟩
theorem c_X11_isHint {s0 s : ST} {b p c w its : Int} {Q : ST → Int → Prop} (cx : CX s0 b p c w its) (hS : WQ s0 b s b) (h28 : s.1 139 28 = b) (h187 : c = 1 → s.1 187 w = its) (hb : BK s) (hl : LD s)
    (hQ : ∀ s' v, md qF ihC s s' → KB s s' → NEW s0 b p c its s' → WF s' 2 → (v ≠ 0 → LV s' 2) → LD s' → BK s' → Q s' v) : C_X11_isHint s p c w Q := by
  have b01 := cx.1
  have key : ∀ (m : Nat) (s1 : ST) (j : Int), 40 - j = (m : Int) → 0 ≤ j → md [] [182] s s1 → (∀ r, 0 ≤ r → r < j → s1.1 182 r = -1) → K_X11_isHint_3 s1 p c w j Q := by
    intro m
    induction m with
    | zero =>
      intro s1 j hm j0 m1 hno
      have f28 : s1.1 139 28 = b := by rw [m1.f 139 28 (by decide) (by decide)]; exact h28
      have wx1 : ∀ x, WX s x s1 x := fun x => WX.md m1 (by decide) (by decide)
      have hb1 := hb.keep m1 (by decide) (by decide)
      refine s_X11_isHint_3 fun _ _ _ _ _ => ⟨fun _ => ?_, fun h => absurd (by omega) h⟩
      refine c_X11_change cx (hS.tr (wx1 b).1) f28 (fun hc => by rw [m1.c 187 (by decide) (by decide)]; exact h187 hc) (fun r r0 r1 => hno r r0 (by omega)) fun s2 cd nw => ?_
      have m2 := cd.1
      have m12 : md qF ihC s s2 := (m1.mono (by decide) (by decide)).tr (m2.mono (by decide) (by decide))
      have kb2 : KB s s2 := fun x hx => (wx1 x).tr (cd.wx hx)
      have l2 : LD s2 := (hl.kp m1 (by decide) (by decide)).wq hb1.1 hb1.2.1 ((cd.wx (Or.inl hb1.1)).1) m2 (by decide) (by decide)
      have hb2 := hb.wx kb2 m12 (by decide) (by decide)
      have W2 := cd.2.1
      refine c_X11_asksOf W2 ?_
      refine ⟨fun hle => ?_, fun _ => hQ s2 0 m12 kb2 nw W2 (fun h => absurd rfl h) l2 hb2⟩
      have L2 : LV s2 2 := ⟨W2, hle⟩
      refine c_X11_layOut L2 fun s3 m3 e49 ti3 ly3 => ?_
      refine ⟨⟨by omega, by omega⟩, c_X11_makes ti3 fun s5 v5 m5 _ => fun _ => ?_⟩
      have m35 : md [(139, 46), (139, 47), (139, 48), (139, 49), (139, 50), (139, 51)] [161, 162, 163, 164, 165, 166, 167, 168, 169, 170, 171, 172, 173] s2 s5 := (m3.mono (by decide) (by decide)).tr (m5.mono (by decide) (by decide))
      have m15 : md qF ihC s s5 := m12.tr (m35.mono (by decide) (by decide))
      have kb5 : KB s s5 := kb2.tr (fun x _ => WX.md m35 (by decide) (by decide))
      have f28' := m15.f 139 28 (by decide) (by decide)
      refine hQ s5 v5 m15 kb5 (nw.gen m35 (by decide) (by decide)) (W2.keep m35 (by decide) (by decide)) (fun _ => L2.keep m35 (by decide) (by decide)) (fun e => ?_) (hb.wx kb5 m15 (by decide) (by decide))
      rw [m5.f 139 49 (by decide) (by decide), e49, f28'] at e
      have := hb.1
      omega
    | succ m ih =>
      intro s1 j hm j0 m1 hno
      refine s_X11_isHint_3 ?_
      (repeat' (with_reducible first | refine ⟨?_, ?_⟩ | intro _))
      all_goals first | omega | skip
      refine ih _ (j + 1) (by omega) (by omega) (m1.tr (by repeat' (first | exact md.rf | assumption | refine md.ui ?_ ?_ | refine md.uj ?_ ?_ | exact Or.inr (by decide) | exact Or.inl (by decide)))) (fun r r0 r1 => ?_)
      by_cases e : r = j
      · rw [e, ui_same]
      · rw [ui_ne e]; exact hno r r0 (by omega)
  exact s_X11_isHint fun _ _ _ _ => key 40 s 0 (by omega) (by omega) md.rf (fun r _ _ => by omega)
/-- hint i has been found, and can be put into effect -/
def HV (s : ST) (b i : Int) : Prop := ∃ (s0 sN : ST) (its : Int), CX s0 b (s.1 184 i) (s.1 185 i) (s.1 186 i) its ∧ WX s0 b s b ∧ NEW s0 b (s.1 184 i) (s.1 185 i) its sN ∧ LV sN 2 ∧ (s.1 185 i = 1 → (ML s b (s.1 184 i))[(s.1 186 i).toNat]? = some its)
def HI (s : ST) : Prop := (0 ≤ s.1 139 70 ∧ s.1 139 70 ≤ 40) ∧ ∀ i, 0 ≤ i → i < s.1 139 70 → HV s (s.1 139 28) i
theorem HV.keep {fs : List (Nat × Int)} {cs : List Nat} {s s' : ST} {b i : Int} (h : HV s b i) (W : WF s b) (k : WX s b s' b) (hm : md fs cs s s') (h1 : (fs.all fun q => decide (q.1 ∉ [184, 185, 186])) = true) (h2 : (cs.all fun a => decide (a ∉ [184, 185, 186])) = true) : HV s' b i := by
  have cell : ∀ a, a ∈ [184, 185, 186] → ∀ t, s'.1 a t = s.1 a t := fun a ha t => (hm a t (fun q => of_decide_eq_true (List.all_eq_true.mp h1 _ q) ha) (fun q => of_decide_eq_true (List.all_eq_true.mp h2 _ q) ha)).1
  obtain ⟨s0, sN, its, c1, c2, c3, c4, c5⟩ := h
  refine ⟨s0, sN, its, ?_, c2.tr k, ?_, c4, ?_⟩
  · rw [cell 184 (by decide), cell 185 (by decide), cell 186 (by decide)]; exact c1
  · rw [cell 184 (by decide), cell 185 (by decide)]; exact c3
  · rw [cell 184 (by decide), cell 185 (by decide), cell 186 (by decide)]
    intro h
    have hp := c1.2.2.1
    have hn := c2.1.1.1
    rw [ML.copy k W hp.1 (by omega)]
    exact c5 h
theorem HI.keep {fs : List (Nat × Int)} {cs : List Nat} {s s' : ST} (h : HI s) (hb : BK s) (k : WX s (s.1 139 28) s' (s.1 139 28)) (hm : md fs cs s s') (h1 : (fs.all fun q => decide (q.1 ∉ [184, 185, 186]) && decide (q ∉ [((139 : Nat), (28 : Int)), (139, 70)])) = true) (h2 : (cs.all fun a => decide (a ∉ [139, 184, 185, 186])) = true) : HI s' := by
  have fld : ∀ f, (139, f) ∈ [((139 : Nat), (28 : Int)), (139, 70)] → s'.1 139 f = s.1 139 f := fun f hf => (hm 139 f (fun q => by
    have := List.all_eq_true.mp h1 _ q
    rw [Bool.and_eq_true, decide_eq_true_eq, decide_eq_true_eq] at this
    exact this.2 hf) (fun q => (of_decide_eq_true (List.all_eq_true.mp h2 _ q)) (by decide))).1
  unfold HI
  rw [fld 28 (by decide), fld 70 (by decide)]
  refine ⟨h.1, fun i i0 i1 => (h.2 i i0 i1).keep hb.2.1 k hm ?_ ?_⟩
  · rw [List.all_eq_true] at h1 ⊢
    intro q hq
    have := h1 q hq
    rw [Bool.and_eq_true] at this
    exact this.1
  · rw [List.all_eq_true] at h2 ⊢
    intro q hq
    have := of_decide_eq_true (h2 q hq)
    exact decide_eq_true (fun h => this (List.mem_cons_of_mem _ h))
def adF : List (Nat × Int) := (139, 70) :: qF
def adC : List Nat := 184 :: 185 :: 186 :: ihC
theorem c_X11_adds {s : ST} {p c w its : Int} {Q : ST → Prop} (cx : CX s (s.1 139 28) p c w its) (h187 : c = 1 → s.1 187 w = its) (hML : c = 1 → (ML s (s.1 139 28) p)[w.toNat]? = some its) (hb : BK s) (hl : LD s) (hi : HI s)
    (hQ : ∀ s', md adF adC s s' → KB s s' → LD s' → BK s' → HI s' → Q s') : C_X11_adds s p c w Q := by
  obtain ⟨⟨n0, n1⟩, hv⟩ := id hi
  refine s_X11_adds fun _ _ _ _ => ⟨fun _ => hQ s md.rf (fun x _ => .rf) hl hb hi, fun hne => ?_⟩
  refine c_X11_isHint cx .rf rfl h187 hb hl fun s1 v1 m1 kb1 nw1 W1 lv1 l1 b1 => fun _ => ?_
  have e28 := m1.f 139 28 (by decide) (by decide)
  have e70 := m1.f 139 70 (by decide) (by decide)
  have hi1 : HI s1 := hi.keep hb (kb1 _ (Or.inl hb.1)) m1 (by decide) (by decide)
  refine ⟨fun hv1 => ?_, fun _ => hQ s1 (m1.mono (by decide) (by decide)) kb1 l1 b1 hi1⟩
  rw [e70]
  refine ⟨⟨by omega, by omega⟩, ⟨by omega, by omega⟩, ?_⟩
  have m2 : md [(139, 70)] [184, 185, 186] s1 (ui (ui (ui (ui s1 184 (s.1 139 70) p) 185 (s.1 139 70) c) 186 (s.1 139 70) w) 139 70 (s.1 139 70 + 1)) := (by repeat' (first | exact md.rf | assumption | refine md.ui ?_ ?_ | refine md.uj ?_ ?_ | exact Or.inr (by decide) | exact Or.inl (by decide)))
  have g70 : (ui (ui (ui (ui s1 184 (s.1 139 70) p) 185 (s.1 139 70) c) 186 (s.1 139 70) w) 139 70 (s.1 139 70 + 1)).1 139 70 = s.1 139 70 + 1 := ui_same
  have g4 : ∀ z, (ui (ui (ui (ui s1 184 (s.1 139 70) p) 185 (s.1 139 70) c) 186 (s.1 139 70) w) 139 70 (s.1 139 70 + 1)).1 184 z = if z = s.1 139 70 then p else s1.1 184 z := fun z => by
    rw [ui_cell (by decide), ui_cell (by decide), ui_cell (by decide)]
    by_cases e : z = s.1 139 70
    · rw [e, ui_same, if_pos rfl]
    · rw [ui_ne e, if_neg e]
  have g5 : ∀ z, (ui (ui (ui (ui s1 184 (s.1 139 70) p) 185 (s.1 139 70) c) 186 (s.1 139 70) w) 139 70 (s.1 139 70 + 1)).1 185 z = if z = s.1 139 70 then c else s1.1 185 z := fun z => by
    rw [ui_cell (by decide), ui_cell (by decide)]
    by_cases e : z = s.1 139 70
    · rw [e, ui_same, if_pos rfl]
    · rw [ui_ne e, ui_cell (by decide), if_neg e]
  have g6 : ∀ z, (ui (ui (ui (ui s1 184 (s.1 139 70) p) 185 (s.1 139 70) c) 186 (s.1 139 70) w) 139 70 (s.1 139 70 + 1)).1 186 z = if z = s.1 139 70 then w else s1.1 186 z := fun z => by
    rw [ui_cell (by decide)]
    by_cases e : z = s.1 139 70
    · rw [e, ui_same, if_pos rfl]
    · rw [ui_ne e, ui_cell (by decide), ui_cell (by decide), if_neg e]
  generalize (ui (ui (ui (ui s1 184 (s.1 139 70) p) 185 (s.1 139 70) c) 186 (s.1 139 70) w) 139 70 (s.1 139 70 + 1)) = s2 at *
  have f28 := m2.f 139 28 (by decide) (by decide)
  have kx2 : ∀ x, WX s1 x s2 x := fun x => WX.md m2 (by decide) (by decide)
  have kb2 : KB s s2 := kb1.tr (fun x _ => kx2 x)
  refine hQ s2 ((m1.mono (by decide) (by decide)).tr (m2.mono (by decide) (by decide))) kb2 (l1.kp m2 (by decide) (by decide)) (b1.keep m2 (by decide) (by decide)) ⟨by omega, fun i i0 i1 => ?_⟩
  rw [f28, e28]
  by_cases e : i = s.1 139 70
  · have kk := kb2 _ (Or.inl hb.1)
    refine ⟨s, s1, its, ?_, kk, ?_, lv1 hv1, ?_⟩
    · rw [g4, g5, g6, if_pos e, if_pos e, if_pos e]; exact cx
    · rw [g4, g5, if_pos e, if_pos e]; exact nw1
    · rw [g4, g5, g6, if_pos e, if_pos e, if_pos e]
      intro h
      rw [ML.copy kk hb.2.1 cx.2.2.1.1 cx.2.2.1.2]
      exact hML h
  · have hvi := hi1.2 i i0 (by omega)
    rw [e28] at hvi
    obtain ⟨s0, sN, it, c1, c2, c3, c4, c5⟩ := hvi
    refine ⟨s0, sN, it, ?_, c2.tr (kx2 _), ?_, c4, ?_⟩
    · rw [g4, g5, g6, if_neg e, if_neg e, if_neg e]; exact c1
    · rw [g4, g5, if_neg e, if_neg e]; exact c3
    · rw [g4, g5, g6, if_neg e, if_neg e, if_neg e]
      intro h
      have hp := c1.2.2.1
      have hn := c2.1.1.1
      have W1' := b1.2.1
      rw [e28] at W1'
      rw [ML.copy (kx2 _) W1' hp.1 (by omega)]
      exact c5 h
