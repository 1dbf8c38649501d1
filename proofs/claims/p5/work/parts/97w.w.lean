/-! THE REFERENCE: the invariant between calls; every method returns -/
def BOX (s : ST) : Prop := ∀ k, 0 ≤ k → k < 3 → s.1 203 k ≠ 0 → LV s (3 + k) ∧ ∀ i, 0 ≤ i → i < 40 → 1 ≤ s.1 202 (40 * k + i) ∧ s.1 202 (40 * k + i) ≤ 100
def TAT (s : ST) : Prop := (0 ≤ s.1 139 2 ∧ s.1 139 2 ≤ 1600) ∧ (0 ≤ s.1 139 93 ∧ s.1 139 93 ≤ 100000)
def IM (s : ST) : Prop := BK s ∧ LD s ∧ TR s ∧ RG s ∧ (s.1 139 63 ≠ 0 → HI s) ∧ TAT s ∧ BOX s
/-- the invariant again, taped and time as before -/
def KP (s s' : ST) : Prop := IM s' ∧ s'.1 139 2 = s.1 139 2 ∧ s'.1 139 93 = s.1 139 93 ∧ s'.1 140 = s.1 140 ∧ s'.1 139 4 = s.1 139 4 ∧ s'.1 139 5 = s.1 139 5
theorem all_imp {α : Type} {p q : α → Bool} {l : List α} (h : l.all p = true) (k : ∀ a, p a = true → q a = true) : l.all q = true :=
  List.all_eq_true.mpr fun a ha => k a (List.all_eq_true.mp h a ha)
section IMS
variable {fs : List (Nat × Int)} {cs : List Nat} {s s' : ST}
theorem BOX.wx (h : BOX s) (k : ∀ x, 3 ≤ x → x ≤ 5 → WX s x s' x) (e2 : ∀ x, s'.1 202 x = s.1 202 x) (e3 : ∀ x, s'.1 203 x = s.1 203 x) : BOX s' := fun i i0 i1 hx => by
  rw [e3] at hx
  obtain ⟨a, b⟩ := h i i0 i1 hx
  exact ⟨a.copy (k _ (by omega) (by omega)).1 (by omega), fun j j0 j1 => by rw [e2]; exact b j j0 j1⟩
theorem IM.q (h : IM s) (hm : md fs cs s s') (hA : (fs.all fun q => decide (q.1 ∉ bankCells)) = true) (hB : (cs.all fun a => decide (a ∉ bankCells)) = true) (hC : (fs.all fun q => decide (q.1 ∉ [176, 184, 185, 186, 202, 203, 140]) && decide (q ∉ [((139 : Nat), (28 : Int)), (139, 92), (139, 2), (139, 93), (139, 63), (139, 70), (139, 4), (139, 5)])) = true) (hD : (cs.all fun a => decide (a ∉ [139, 176, 184, 185, 186, 202, 203, 140])) = true) (ld : LD s') : KP s s' := by
  obtain ⟨bk, _, tr, rg, hi, ⟨t1, t2⟩, bx⟩ := h
  have ef : ∀ x : Int, x = 28 ∨ x = 92 ∨ x = 2 ∨ x = 93 ∨ x = 63 ∨ x = 4 ∨ x = 5 → s'.1 139 x = s.1 139 x := fun x hx => (hm 139 x (fun q => by
    have := List.all_eq_true.mp hC _ q
    rw [Bool.and_eq_true] at this
    rcases hx with e | e | e | e | e | e | e <;> (rw [e] at this; exact of_decide_eq_true this.2 (by decide))) (fun q => of_decide_eq_true (List.all_eq_true.mp hD _ q) (by decide))).1
  have ec : ∀ a, a = 176 ∨ a = 202 ∨ a = 203 ∨ a = 140 → ∀ x, s'.1 a x = s.1 a x := fun a ha x => (hm a x (fun q => by
    have := List.all_eq_true.mp hC _ q
    rw [Bool.and_eq_true] at this
    rcases ha with e | e | e | e <;> (rw [e] at this; exact of_decide_eq_true this.1 (by simp))) (fun q => by
    rcases ha with e | e | e | e <;> (rw [e] at q; exact of_decide_eq_true (List.all_eq_true.mp hD _ q) (by decide)))).1
  have wx : ∀ x, WX s x s' x := fun x => WX.md hm hA hB
  have e28 := ef 28 (Or.inl rfl)
  have b01 := bk.1
  refine ⟨⟨⟨by omega, ?_⟩, ld, ?_, ?_, fun h63 => ?_, ⟨?_, ?_⟩, bx.wx (fun x _ _ => wx x) (ec 202 (by decide)) (ec 203 (by decide))⟩, ef 2 (by decide), ef 93 (by decide), funext (ec 140 (by decide)), ef 4 (by decide), ef 5 (by decide)⟩
  · rw [e28]; exact bk.2.copy (wx _).1 (by omega)
  · intro p p0 p1; rw [ec 176 (by decide)]; exact tr p p0 p1
  · unfold RG; rw [ef 92 (by decide)]; exact rg
  · rw [ef 63 (by decide)] at h63
    refine (hi h63).keep bk (wx _) hm (all_imp hC fun q hq => ?_) (all_imp hD fun a ha => ?_)
    · rw [Bool.and_eq_true] at hq ⊢
      refine ⟨decide_eq_true fun hh => of_decide_eq_true hq.1 ?_, decide_eq_true fun hh => of_decide_eq_true hq.2 ?_⟩
      · simp only [List.mem_cons, List.not_mem_nil, or_false] at hh ⊢; omega
      · simp only [List.mem_cons, List.not_mem_nil, or_false] at hh ⊢
        rcases hh with e | e <;> rw [e] <;> simp
    · refine decide_eq_true fun hh => of_decide_eq_true ha ?_
      simp only [List.mem_cons, List.not_mem_nil, or_false] at hh ⊢; omega
  · rw [ef 2 (by decide)]; exact t1
  · rw [ef 93 (by decide)]; exact t2
end IMS
section MET
variable {s : ST}
theorem i_X11_fits {Q : ST → Int → Prop} (h : IM s) (hQ : ∀ s' v, KP s s' → Q s' v) : C_X11_fits s Q := c_X11_fits h.1 h.2.1 fun s' v m l => hQ s' v (h.q m (by decide) (by decide) (by decide) (by decide) (fun _ => l.2))
theorem i_X11_kind {p q : Int} {Q : ST → Int → Prop} (h : IM s) (hQ : ∀ s' v, KP s s' → Q s' v) : C_X11_kind s p q Q := c_X11_kind h.1 h.2.1 fun s' v m l => hQ s' v (h.q m (by decide) (by decide) (by decide) (by decide) (fun _ => l.2))
theorem i_X11_meets {p q : Int} {Q : ST → Int → Prop} (h : IM s) (hQ : ∀ s' v, KP s s' → Q s' v) : C_X11_meets s p q Q := c_X11_meets h.1 h.2.1 fun s' v m l => hQ s' v (h.q m (by decide) (by decide) (by decide) (by decide) (fun _ => l.2))
theorem i_X11_core {Q : ST → Int64 → Prop} (h : IM s) (hQ : ∀ s' v, KP s s' → Q s' v) : C_X11_core s Q := c_X11_core h.1 h.2.1 fun s' v m l => hQ s' v (h.q m (by decide) (by decide) (by decide) (by decide) (fun _ => l.2))
theorem i_X11_clashes {p : Int64} {Q : ST → Int → Prop} (h : IM s) (hQ : ∀ s' v, KP s s' → Q s' v) : C_X11_clashes s p Q := c_X11_clashes h.1 h.2.1 fun s' v m l => hQ s' v (h.q m (by decide) (by decide) (by decide) (by decide) l)
theorem i_X11_cores {Q : ST → Int → Prop} (h : IM s) (hQ : ∀ s' v, KP s s' → Q s' v) : C_X11_cores s Q := c_X11_cores h.1 h.2.1 fun s' v m l => hQ s' v (h.q m (by decide) (by decide) (by decide) (by decide) l)
theorem i_X11_mends {Q : ST → Int → Prop} (h : IM s) (hQ : ∀ s' v, KP s s' → Q s' v) : C_X11_mends s Q := c_X11_mends h.1 h.2.1 fun s' v m l => hQ s' v (h.q m (by decide) (by decide) (by decide) (by decide) l)
theorem i_X11_coreAt {p : Int} {Q : ST → Int64 → Prop} (h : IM s) (hQ : ∀ s' v, KP s s' → Q s' v) : C_X11_coreAt s p Q := c_X11_coreAt h.1 h.2.1 fun s' v m l => hQ s' v (h.q m (by decide) (by decide) (by decide) (by decide) l)
theorem i_X11_mendAt {p : Int} {Q : ST → Int64 → Prop} (h : IM s) (hQ : ∀ s' v, KP s s' → Q s' v) : C_X11_mendAt s p Q := c_X11_mendAt h.1 h.2.1 fun s' v m l => hQ s' v (h.q m (by decide) (by decide) (by decide) (by decide) l)
theorem i_X11_left {p : Int} {Q : ST → Int → Prop} (h : IM s) (hQ : ∀ s' v, KP s s' → Q s' v) : C_X11_left s p Q := c_X11_left h.1 h.2.1 h.2.2.2.1 fun s' v m l => hQ s' v (h.q m (by decide) (by decide) (by decide) (by decide) l)
theorem i_X11_sure {p : Int} {Q : ST → Int64 → Prop} (h : IM s) (hQ : ∀ s' v, KP s s' → Q s' v) : C_X11_sure s p Q := c_X11_sure h.1 h.2.1 h.2.2.2.1 fun s' v m l => hQ s' v (h.q m (by decide) (by decide) (by decide) (by decide) l)
theorem i_X11_cheapest {Q : ST → Int64 → Prop} (h : IM s) (hQ : ∀ s' v, KP s s' → Q s' v) : C_X11_cheapest s Q := c_X11_cheapest h.1 h.2.1 h.2.2.1 fun s' v m l => hQ s' v (h.q m (by decide) (by decide) (by decide) (by decide) l)
theorem i_X11_run {p : Int} {Q : ST → Int → Prop} (h : IM s) (hQ : ∀ s' v, KP s s' → Q s' v) : C_X11_run s p Q := c_X11_run h.1.2.1 rfl fun s' v m => hQ s' v (h.q m (by decide) (by decide) (by decide) (by decide) (h.2.1.kp m (by decide) (by decide)))
theorem i_X11_fault {p : Int} {Q : ST → Int → Prop} (hQ : ∀ v, Q s v) : C_X11_fault s p Q := by
  refine (w_X11_fault (s := s) (p := p)).mono ?_
  rintro s' v ⟨e, _⟩
  rw [e]; exact hQ v
theorem i_X11_place {p q : Int} {Q : ST → Int → Prop} (h : IM s) (hQ : ∀ v, Q s v) : C_X11_place s p q Q := by
  have hb := h.1.1
  have nn := h.1.2.1.nn
  have hp : P_X11_isPlace s p := ⟨by omega, by unfold R32; omega⟩
  have hin : ¬ F_X11_isIn s p 0 (s.1 142 (s.1 139 28) - 1) = 0 → 0 ≤ p ∧ p < s.1 142 (s.1 139 28) := fun h => by
    unfold F_X11_isIn at h
    by_cases c : p < 0
    · rw [if_pos c] at h; exact absurd rfl h
    · rw [if_neg c] at h
      by_cases c2 : s.1 142 (s.1 139 28) - 1 < p
      · rw [if_pos c2] at h; exact absurd rfl h
      · omega
  refine (w_X11_place (s := s) (p := p) (q := q) ⟨hp, fun hn => ?_⟩).mono ?_
  · have := hin hn
    refine ⟨by unfold R32; omega, by unfold R32; omega, fun _ => by omega, fun _ => by omega, fun _ => by omega, fun _ => by omega⟩
  · rintro s' v ⟨e, _⟩
    rw [e]; exact hQ v
theorem i_X11_right {p : Int} {Q : ST → Int → Prop} (h : IM s) (hQ : ∀ s' v, KP s s' → Q s' v) : C_X11_right s p Q := by
  have hb := h.1.1
  have nn := h.1.2.1.nn
  have rg := h.2.2.2.1
  have self : KP s s := ⟨h, rfl, rfl, rfl, rfl, rfl⟩
  unfold RG at rg
  refine s_X11_right fun _ _ => ⟨⟨by omega, by unfold R32; omega⟩, fun _ => hQ _ _ self, fun _ => ⟨fun hne => ?_, fun _ => hQ _ _ self⟩⟩
  refine ⟨by omega, by unfold R32; omega, by unfold R32; omega, hQ _ _ ?_⟩
  have mm : md [(139, 92)] [199, 200, 201] s (ui (ui (ui (ui s 199 (s.1 139 92) p) 200 (s.1 139 92) (s.1 139 93)) 201 (s.1 139 92) (-1)) 139 92 (s.1 139 92 + 1)) := (by repeat' (first | exact md.rf | assumption | refine md.ui ?_ ?_ | refine md.uj ?_ ?_ | exact Or.inr (by decide) | exact Or.inl (by decide)))
  have e92 : (ui (ui (ui (ui s 199 (s.1 139 92) p) 200 (s.1 139 92) (s.1 139 93)) 201 (s.1 139 92) (-1)) 139 92 (s.1 139 92 + 1)).1 139 92 = s.1 139 92 + 1 := ui_same
  generalize ui (ui (ui (ui s 199 (s.1 139 92) p) 200 (s.1 139 92) (s.1 139 93)) 201 (s.1 139 92) (-1)) 139 92 (s.1 139 92 + 1) = s1 at *
  obtain ⟨bk, ld, tr, _, hi, ⟨t1, t2⟩, bx⟩ := h
  have e28 := mm.f 139 28 (by decide) (by decide)
  refine ⟨⟨⟨by omega, ?_⟩, ld.kp mm (by decide) (by decide), ?_, by unfold RG; omega, fun h63 => ?_, ⟨?_, ?_⟩, bx.wx (fun x _ _ => WX.md mm (by decide) (by decide)) (fun x => mm.c 202 (by decide) (by decide) x) (fun x => mm.c 203 (by decide) (by decide) x)⟩, mm.f 139 2 (by decide) (by decide), mm.f 139 93 (by decide) (by decide), funext (mm.c 140 (by decide) (by decide)), mm.f 139 4 (by decide) (by decide), mm.f 139 5 (by decide) (by decide)⟩
  · rw [e28]; exact bk.2.copy (WX.md mm (by decide) (by decide)).1 (by omega)
  · intro p p0 p1; rw [mm.c 176 (by decide) (by decide)]; exact tr p p0 p1
  · rw [mm.f 139 63 (by decide) (by decide)] at h63
    exact (hi h63).keep bk (WX.md mm (by decide) (by decide)) mm (by decide) (by decide)
  · rw [mm.f 139 2 (by decide) (by decide)]; exact t1
  · rw [mm.f 139 93 (by decide) (by decide)]; exact t2
theorem i_X11_untell {p : Int} {Q : ST → Int → Prop} (h : IM s) (hQ : ∀ s' v, KP s s' → Q s' v) : C_X11_untell s p Q := by
  have rg := h.2.2.2.1
  have self : KP s s := ⟨h, rfl, rfl, rfl, rfl, rfl⟩
  unfold RG at rg
  refine s_X11_untell ?_
  (repeat' (with_reducible first | refine ⟨?_, ?_⟩ | intro _))
  all_goals first | omega | exact hQ _ _ self | skip
end MET
