/-! THE REFERENCE: a run returns -/
def ICh (nx bd : Int → Int) (f : Int) : Nat → Int → Prop
  | 0, _ => False
  | n + 1, e => 0 ≤ e ∧ (bd e = f ∨ ICh nx bd f n (nx e))
theorem ICh.keep {nx bd nx' bd' : Int → Int} {f E : Int} (h1 : ∀ x, 0 ≤ x → x < E → nx' x = nx x ∧ bd' x = bd x) (h2 : ∀ x, 0 ≤ x → x < E → nx x < x) : ∀ (n : Nat) (e : Int), e < E → ICh nx bd f n e → ICh nx' bd' f n e := by
  intro n
  induction n with
  | zero => intro e _ h; exact h
  | succ n ih =>
    intro e he h
    obtain ⟨h0, h3⟩ := h
    have h4 := h1 e h0 he
    have h5 := h2 e h0 he
    refine ⟨h0, ?_⟩
    rw [h4.1, h4.2]
    exact h3.elim Or.inl (fun h => Or.inr (ih _ (by omega) h))
/-- in the env e each fun round p has a value -/
def CV (s : ST) (b e p : Int) : Prop := (-1 ≤ e ∧ e < s.1 139 86) ∧ ∀ f, 0 ≤ f → f < p → p ≤ s.1 150 (40 * b + f) → s.1 146 (40 * b + f) = 3 → ∃ n, ICh (s.1 198) (s.1 196) f n e
def VAL (s : ST) (b i : Int) : Prop := (0 ≤ s.1 192 i ∧ s.1 192 i ≤ 4) ∧ (s.1 192 i = 4 → ((0 ≤ s.1 193 i ∧ s.1 193 i < s.1 142 b) ∧ s.1 146 (40 * b + s.1 193 i) = 3) ∧ CV s b (s.1 194 i) (s.1 193 i)) ∧ (s.1 192 i = 3 → (0 ≤ s.1 194 i ∧ s.1 194 i < s.1 139 85) ∧ 0 ≤ s.1 195 i ∧ s.1 195 i < s.1 139 85) ∧ (s.1 192 i = 2 → s.1 193 i ≠ 0 → (0 ≤ s.1 194 i ∧ s.1 194 i < s.1 139 85) ∧ 0 ≤ s.1 195 i ∧ s.1 195 i < s.1 139 85)
def FRM (s : ST) (b i : Int) : Prop := (0 ≤ s.1 188 i ∧ s.1 188 i < s.1 142 b) ∧ ((0 ≤ s.1 189 i ∧ s.1 189 i ≤ 3) ∧ (s.1 146 (40 * b + s.1 188 i) = 5 → s.1 189 i ≤ 2)) ∧ CV s b (s.1 190 i) (s.1 188 i) ∧ (2 ≤ s.1 189 i → s.1 146 (40 * b + s.1 188 i) ≠ 5 → 0 ≤ s.1 191 i ∧ s.1 191 i < s.1 139 85)
/-- frames, values and envs are good; the top frame waits for nothing that isn't there -/
def RNb (s : ST) (b k j m : Int) : Prop := (0 ≤ s.1 139 83 ∧ s.1 139 83 ≤ 151) ∧ (0 ≤ s.1 139 85 ∧ s.1 139 85 + s.1 139 83 ≤ s.1 139 84 + k ∧ s.1 139 84 ≤ 4000) ∧ (0 ≤ s.1 139 86 ∧ s.1 139 86 + 1 ≤ s.1 139 84 + j) ∧ (∀ e, 0 ≤ e → e < s.1 139 86 → (-1 ≤ s.1 198 e ∧ s.1 198 e < e) ∧ 0 ≤ s.1 197 e ∧ s.1 197 e < s.1 139 85) ∧ (∀ i, 0 ≤ i → i < s.1 139 85 → VAL s b i) ∧ (∀ i, 0 ≤ i → i < s.1 139 83 - m → FRM s b i)
def RES (s : ST) : Prop := 0 ≤ s.1 139 87 ∧ s.1 139 87 < s.1 139 85
def RN (s : ST) (b : Int) : Prop := RNb s b 0 0 0 ∧ (s.1 139 83 = 0 ∨ 1 ≤ s.1 189 (s.1 139 83 - 1) → RES s)
def rF : List (Nat × Int) := [(139, 83), (139, 84), (139, 85), (139, 86), (139, 87), (139, 88)]
def rC : List Nat := [188, 189, 190, 191, 192, 193, 194, 195, 196, 197, 198]
theorem CV.keep {s s' : ST} {b e p : Int} (h : CV s b e p) (h1 : s'.1 146 = s.1 146) (h2 : s'.1 150 = s.1 150) (hE : s.1 139 86 ≤ s'.1 139 86) (h3 : ∀ x, 0 ≤ x → x < s.1 139 86 → s'.1 198 x = s.1 198 x ∧ s'.1 196 x = s.1 196 x) (h4 : ∀ x, 0 ≤ x → x < s.1 139 86 → s.1 198 x < x) : CV s' b e p := by
  obtain ⟨⟨a1, a2⟩, a3⟩ := h
  refine ⟨⟨a1, by omega⟩, fun f f0 f1 f2 f3 => ?_⟩
  rw [h2] at f2
  rw [h1] at f3
  obtain ⟨n, hn⟩ := a3 f f0 f1 f2 f3
  exact ⟨n, hn.keep h3 h4 n e a2⟩
/-- a state that differs in the frames alone (and in what has been worked out last) -/
theorem RNb.upd {s s' : ST} {b F W k j m : Int} (h : RNb s b k j m) (hm : md [(139, 83), (139, 84), (139, 87), (139, 88)] [188, 189, 190, 191] s s') (hF : s'.1 139 83 = F) (hW : s'.1 139 84 = W) (h1 : 0 ≤ F ∧ F ≤ 151) (h2 : s.1 139 85 + F ≤ W ∧ W ≤ 4000 ∧ s.1 139 86 + 1 ≤ W) (hf : ∀ i, 0 ≤ i → i < F → FRM s' b i) : RNb s' b 0 0 0 := by
  obtain ⟨a1, a2, a3, a4, a5, a6⟩ := h
  have e85 := hm.f 139 85 (by decide) (by decide)
  have e86 := hm.f 139 86 (by decide) (by decide)
  refine ⟨by omega, by omega, by omega, fun e e0 e1 => ?_, fun i i0 i1 => ?_, fun i i0 i1 => hf i i0 (by omega)⟩
  · rw [hm.c 198 (by decide) (by decide), hm.c 197 (by decide) (by decide), e85]; exact a4 e e0 (by omega)
  · obtain ⟨v1, v2, v3, v4⟩ := a5 i i0 (by omega)
    unfold VAL
    rw [hm.c 192 (by decide) (by decide), hm.c 193 (by decide) (by decide), hm.c 194 (by decide) (by decide), hm.c 195 (by decide) (by decide), hm.c 142 (by decide) (by decide), hm.c 146 (by decide) (by decide), e85]
    refine ⟨v1, fun h => ⟨(v2 h).1, (v2 h).2.keep (funext fun x => hm.c 146 (by decide) (by decide) x) (funext fun x => hm.c 150 (by decide) (by decide) x) (by omega) (fun x _ _ => ⟨hm.c 198 (by decide) (by decide) x, hm.c 196 (by decide) (by decide) x⟩) (fun x x0 x1 => (a4 x x0 x1).1.2)⟩, v3, v4⟩
theorem FRM.upd {s s' : ST} {b i : Int} (h : FRM s b i) (hm : md [(139, 83), (139, 84), (139, 87), (139, 88)] [188, 189, 190, 191] s s') (h4 : ∀ x, 0 ≤ x → x < s.1 139 86 → s.1 198 x < x) (e1 : s'.1 188 i = s.1 188 i) (e2 : s'.1 189 i = s.1 189 i) (e3 : s'.1 190 i = s.1 190 i) (e4 : s'.1 191 i = s.1 191 i) : FRM s' b i := by
  obtain ⟨v1, v2, v3, v4⟩ := h
  unfold FRM
  rw [e1, e2, e3, e4, hm.c 142 (by decide) (by decide), hm.c 146 (by decide) (by decide), hm.f 139 85 (by decide) (by decide)]
  exact ⟨v1, v2, v3.keep (funext fun x => hm.c 146 (by decide) (by decide) x) (funext fun x => hm.c 150 (by decide) (by decide) x) (by rw [hm.f 139 86 (by decide) (by decide)]; omega) (fun x _ _ => ⟨hm.c 198 (by decide) (by decide) x, hm.c 196 (by decide) (by decide) x⟩) h4, v4⟩
theorem CV.md4 {s s' : ST} {b e p k j m : Int} (h : CV s b e p) (r : RNb s b k j m) (hm : md [(139, 83), (139, 84), (139, 87), (139, 88)] [188, 189, 190, 191] s s') : CV s' b e p := h.keep (funext fun x => hm.c 146 (by decide) (by decide) x) (funext fun x => hm.c 150 (by decide) (by decide) x) (by rw [hm.f 139 86 (by decide) (by decide)]; omega) (fun x _ _ => ⟨hm.c 198 (by decide) (by decide) x, hm.c 196 (by decide) (by decide) x⟩) (fun x x0 x1 => (r.2.2.2.1 x x0 x1).1.2)
theorem RNb.wk {s : ST} {b m : Int} (r : RNb s b 0 0 m) : RNb s b 0 1 m := ⟨r.1, r.2.1, by have := r.2.2.1; omega, r.2.2.2⟩
/-- one step's end: the run is over with what is wrong, or goes on -/
def STP (s0 : ST) (b : Int) (Q : ST → Prop) : Prop := ∀ s', md rF rC s0 s' → (s'.1 139 88 ≠ 0 ∨ s'.1 139 88 = 0 ∧ RN s' b ∧ 2 * (4000 - s'.1 139 84) + s'.1 139 83 < 2 * (4000 - s0.1 139 84) + s0.1 139 83) → Q s'
theorem c_X11_works {s0 s : ST} {b p e : Int} {Q : ST → Prop} (hS : STP s0 b Q) (m0 : md rF rC s0 s) (r : RNb s b 0 1 0) (e88 : s.1 139 88 = 0) (hF : s.1 139 83 = s0.1 139 83) (hW : s.1 139 84 = s0.1 139 84) (p01 : 0 ≤ p ∧ p < s.1 142 b) (cv : CV s b e p) (hp40 : s.1 142 b ≤ 40) : C_X11_works s p e Q := by
  obtain ⟨a1, a2, a3, a4, a5, a6⟩ := id r
  refine s_X11_works fun _ _ _ => ⟨fun _ => hS _ (m0.tr (by repeat' (first | exact md.rf | assumption | refine md.ui ?_ ?_ | refine md.uj ?_ ?_ | exact Or.inr (by decide) | exact Or.inl (by decide)))) (Or.inl (by rw [ui_same]; decide)), fun hne => ⟨fun hle => ?_, fun _ => hS _ (m0.tr (by repeat' (first | exact md.rf | assumption | refine md.ui ?_ ?_ | refine md.uj ?_ ?_ | exact Or.inr (by decide) | exact Or.inl (by decide)))) (Or.inl (by rw [ui_same]; decide))⟩⟩
  refine ⟨⟨by omega, by omega⟩, ⟨by omega, by omega⟩, ⟨by omega, by omega⟩, ?_⟩
  have e83 : (ui s 139 84 (s.1 139 84 + 1)).1 139 83 = s.1 139 83 := ui_ne (by decide)
  have m1 : md [(139, 83), (139, 84), (139, 87), (139, 88)] [188, 189, 190, 191] s (ui (ui (ui (ui (ui s 139 84 (s.1 139 84 + 1)) 188 (s.1 139 83) p) 189 (s.1 139 83) 0) 190 (s.1 139 83) e) 139 83 (s.1 139 83 + 1)) := (by repeat' (first | exact md.rf | assumption | refine md.ui ?_ ?_ | refine md.uj ?_ ?_ | exact Or.inr (by decide) | exact Or.inl (by decide)))
  have g83 : (ui (ui (ui (ui (ui s 139 84 (s.1 139 84 + 1)) 188 (s.1 139 83) p) 189 (s.1 139 83) 0) 190 (s.1 139 83) e) 139 83 (s.1 139 83 + 1)).1 139 83 = s.1 139 83 + 1 := ui_same
  have g84 : (ui (ui (ui (ui (ui s 139 84 (s.1 139 84 + 1)) 188 (s.1 139 83) p) 189 (s.1 139 83) 0) 190 (s.1 139 83) e) 139 83 (s.1 139 83 + 1)).1 139 84 = s.1 139 84 + 1 := by rw [ui_ne (by decide), ui_cell (by decide), ui_cell (by decide), ui_cell (by decide), ui_same]
  have g88 : (ui (ui (ui (ui (ui s 139 84 (s.1 139 84 + 1)) 188 (s.1 139 83) p) 189 (s.1 139 83) 0) 190 (s.1 139 83) e) 139 83 (s.1 139 83 + 1)).1 139 88 = s.1 139 88 := by rw [ui_ne (by decide), ui_cell (by decide), ui_cell (by decide), ui_cell (by decide), ui_ne (by decide)]
  have g188 : ∀ i, (ui (ui (ui (ui (ui s 139 84 (s.1 139 84 + 1)) 188 (s.1 139 83) p) 189 (s.1 139 83) 0) 190 (s.1 139 83) e) 139 83 (s.1 139 83 + 1)).1 188 i = if i = s.1 139 83 then p else s.1 188 i := fun i => by
    rw [ui_cell (by decide), ui_cell (by decide), ui_cell (by decide)]
    by_cases c : i = s.1 139 83
    · rw [c, ui_same, if_pos rfl]
    · rw [ui_ne c, if_neg c, ui_cell (by decide)]
  have g189 : ∀ i, (ui (ui (ui (ui (ui s 139 84 (s.1 139 84 + 1)) 188 (s.1 139 83) p) 189 (s.1 139 83) 0) 190 (s.1 139 83) e) 139 83 (s.1 139 83 + 1)).1 189 i = if i = s.1 139 83 then 0 else s.1 189 i := fun i => by
    rw [ui_cell (by decide), ui_cell (by decide)]
    by_cases c : i = s.1 139 83
    · rw [c, ui_same, if_pos rfl]
    · rw [ui_ne c, if_neg c, ui_cell (by decide), ui_cell (by decide)]
  have g190 : ∀ i, (ui (ui (ui (ui (ui s 139 84 (s.1 139 84 + 1)) 188 (s.1 139 83) p) 189 (s.1 139 83) 0) 190 (s.1 139 83) e) 139 83 (s.1 139 83 + 1)).1 190 i = if i = s.1 139 83 then e else s.1 190 i := fun i => by
    rw [ui_cell (by decide)]
    by_cases c : i = s.1 139 83
    · rw [c, ui_same, if_pos rfl]
    · rw [ui_ne c, if_neg c, ui_cell (by decide), ui_cell (by decide), ui_cell (by decide)]
  have g191 : ∀ i, (ui (ui (ui (ui (ui s 139 84 (s.1 139 84 + 1)) 188 (s.1 139 83) p) 189 (s.1 139 83) 0) 190 (s.1 139 83) e) 139 83 (s.1 139 83 + 1)).1 191 i = s.1 191 i := fun i => by rw [ui_cell (by decide), ui_cell (by decide), ui_cell (by decide), ui_cell (by decide), ui_cell (by decide)]
  have key : ∀ s2, s2 = (ui (ui (ui (ui (ui s 139 84 (s.1 139 84 + 1)) 188 (s.1 139 83) p) 189 (s.1 139 83) 0) 190 (s.1 139 83) e) 139 83 (s.1 139 83 + 1)) → Q s2 := by
    intro s2 h2
    rw [← h2] at m1 g83 g84 g88 g188 g189 g190 g191
    refine hS s2 (m0.tr (m1.mono (by decide) (by decide))) (Or.inr ⟨by omega, ⟨r.upd m1 g83 g84 (by omega) (by omega) (fun i i0 i1 => ?_), fun hx => ?_⟩, by omega⟩)
    · by_cases c : i = s.1 139 83
      · unfold FRM
        rw [g188, g189, g190, g191, if_pos c, if_pos c, if_pos c, m1.c 142 (by decide) (by decide)]
        exact ⟨p01, ⟨⟨by omega, by omega⟩, fun _ => by omega⟩, cv.md4 r m1, fun h => by omega⟩
      · exact (a6 i i0 (by omega)).upd m1 (fun x x0 x1 => (a4 x x0 x1).1.2) (by rw [g188, if_neg c]) (by rw [g189, if_neg c]) (by rw [g190, if_neg c]) (g191 i)
    · rw [g83, g189, if_pos (by omega)] at hx
      omega
  exact key _ rfl
theorem pop_ok {s0 s : ST} {b k v m : Int} {Q : ST → Prop} (hS : STP s0 b Q) (m0 : md rF rC s0 s) (r : RNb s b k 0 m) (hk : k ≤ 1 ∧ m ≤ 1) (e88 : s.1 139 88 = 0) (hF : s.1 139 83 = s0.1 139 83) (hW : s.1 139 84 = s0.1 139 84) (h1 : 1 ≤ s.1 139 83) {s' : ST} (hm : md [(139, 83), (139, 87)] [] s s') (h83 : s'.1 139 83 = s.1 139 83 - 1) (h87 : s'.1 139 87 = v) (hv : 0 ≤ v ∧ v < s.1 139 85) : Q s' := by
  obtain ⟨a1, a2, a3, a4, a5, a6⟩ := id r
  have m1 : md [(139, 83), (139, 84), (139, 87), (139, 88)] [188, 189, 190, 191] s s' := hm.mono (by decide) (by decide)
  have e84 := hm.f 139 84 (by decide) (by decide)
  have e85 := hm.f 139 85 (by decide) (by decide)
  have e8 := hm.f 139 88 (by decide) (by decide)
  exact hS s' (m0.tr (hm.mono (by decide) (by decide))) (Or.inr ⟨by omega, ⟨r.upd m1 h83 e84 (by omega) (by omega) (fun i i0 i1 => (a6 i i0 (by omega)).upd m1 (fun x x0 x1 => (a4 x x0 x1).1.2) (hm.c 188 (by decide) (by decide) i) (hm.c 189 (by decide) (by decide) i) (hm.c 190 (by decide) (by decide) i) (hm.c 191 (by decide) (by decide) i)), fun _ => ⟨by omega, by omega⟩⟩, by omega⟩)
theorem c_X11_gives {s0 s : ST} {b k v m : Int} {Q : ST → Prop} (hS : STP s0 b Q) (m0 : md rF rC s0 s) (r : RNb s b k 0 m) (hk : k ≤ 1 ∧ m ≤ 1) (e88 : s.1 139 88 = 0) (hF : s.1 139 83 = s0.1 139 83) (hW : s.1 139 84 = s0.1 139 84) (h1 : 1 ≤ s.1 139 83) (hv : 0 ≤ v ∧ v < s.1 139 85) : C_X11_gives s v Q := by
  have a1 := r.1
  refine s_X11_gives ?_
  (repeat' (with_reducible first | refine ⟨?_, ?_⟩ | intro _))
  all_goals first | omega | skip
  exact pop_ok hS m0 r hk e88 hF hW h1 (md.ui (md.rf.ui (Or.inl (by decide))) (Or.inl (by decide))) ui_same (by rw [ui_ne (by decide), ui_same]) hv
/-- a value more -/
theorem c_X11_valueOf {s : ST} {b h n x y m : Int} {Q : ST → Int → Prop} (r : RNb s b 0 0 m) (h1 : 1 ≤ s.1 139 83) (vc : (0 ≤ h ∧ h ≤ 4) ∧ (h = 4 → ((0 ≤ n ∧ n < s.1 142 b) ∧ s.1 146 (40 * b + n) = 3) ∧ CV s b x n) ∧ (h = 3 → (0 ≤ x ∧ x < s.1 139 85) ∧ 0 ≤ y ∧ y < s.1 139 85) ∧ (h = 2 → n ≠ 0 → (0 ≤ x ∧ x < s.1 139 85) ∧ 0 ≤ y ∧ y < s.1 139 85))
    (hQ : ∀ s', md [(139, 85)] [192, 193, 194, 195] s s' → s'.1 139 85 = s.1 139 85 + 1 → RNb s' b 1 0 m → Q s' (s.1 139 85)) : C_X11_valueOf s h n x y Q := by
  obtain ⟨a1, a2, a3, a4, a5, a6⟩ := id r
  refine s_X11_valueOf ?_
  (repeat' (with_reducible first | refine ⟨?_, ?_⟩ | intro _))
  all_goals first | omega | skip
  rw [show s.1 139 85 + 1 - 1 = s.1 139 85 by omega]
  have m1 : md [(139, 85)] [192, 193, 194, 195] s (ui (ui (ui (ui (ui s 192 (s.1 139 85) h) 193 (s.1 139 85) n) 194 (s.1 139 85) x) 195 (s.1 139 85) y) 139 85 (s.1 139 85 + 1)) := (by repeat' (first | exact md.rf | assumption | refine md.ui ?_ ?_ | refine md.uj ?_ ?_ | exact Or.inr (by decide) | exact Or.inl (by decide)))
  have g85 : (ui (ui (ui (ui (ui s 192 (s.1 139 85) h) 193 (s.1 139 85) n) 194 (s.1 139 85) x) 195 (s.1 139 85) y) 139 85 (s.1 139 85 + 1)).1 139 85 = s.1 139 85 + 1 := ui_same
  have g2 : ∀ i, (ui (ui (ui (ui (ui s 192 (s.1 139 85) h) 193 (s.1 139 85) n) 194 (s.1 139 85) x) 195 (s.1 139 85) y) 139 85 (s.1 139 85 + 1)).1 192 i = if i = s.1 139 85 then h else s.1 192 i := fun i => by
    rw [ui_cell (by decide), ui_cell (by decide), ui_cell (by decide), ui_cell (by decide)]
    by_cases c : i = s.1 139 85
    · rw [c, ui_same, if_pos rfl]
    · rw [ui_ne c, if_neg c]
  have g3 : ∀ i, (ui (ui (ui (ui (ui s 192 (s.1 139 85) h) 193 (s.1 139 85) n) 194 (s.1 139 85) x) 195 (s.1 139 85) y) 139 85 (s.1 139 85 + 1)).1 193 i = if i = s.1 139 85 then n else s.1 193 i := fun i => by
    rw [ui_cell (by decide), ui_cell (by decide), ui_cell (by decide)]
    by_cases c : i = s.1 139 85
    · rw [c, ui_same, if_pos rfl]
    · rw [ui_ne c, if_neg c, ui_cell (by decide)]
  have g4 : ∀ i, (ui (ui (ui (ui (ui s 192 (s.1 139 85) h) 193 (s.1 139 85) n) 194 (s.1 139 85) x) 195 (s.1 139 85) y) 139 85 (s.1 139 85 + 1)).1 194 i = if i = s.1 139 85 then x else s.1 194 i := fun i => by
    rw [ui_cell (by decide), ui_cell (by decide)]
    by_cases c : i = s.1 139 85
    · rw [c, ui_same, if_pos rfl]
    · rw [ui_ne c, if_neg c, ui_cell (by decide), ui_cell (by decide)]
  have g5 : ∀ i, (ui (ui (ui (ui (ui s 192 (s.1 139 85) h) 193 (s.1 139 85) n) 194 (s.1 139 85) x) 195 (s.1 139 85) y) 139 85 (s.1 139 85 + 1)).1 195 i = if i = s.1 139 85 then y else s.1 195 i := fun i => by
    rw [ui_cell (by decide)]
    by_cases c : i = s.1 139 85
    · rw [c, ui_same, if_pos rfl]
    · rw [ui_ne c, if_neg c, ui_cell (by decide), ui_cell (by decide), ui_cell (by decide)]
  generalize (ui (ui (ui (ui (ui s 192 (s.1 139 85) h) 193 (s.1 139 85) n) 194 (s.1 139 85) x) 195 (s.1 139 85) y) 139 85 (s.1 139 85 + 1)) = s9 at *
  have f83 := m1.f 139 83 (by decide) (by decide)
  have f84 := m1.f 139 84 (by decide) (by decide)
  have f86 := m1.f 139 86 (by decide) (by decide)
  have k46 : s9.1 146 = s.1 146 := funext fun x => m1.c 146 (by decide) (by decide) x
  have k50 : s9.1 150 = s.1 150 := funext fun x => m1.c 150 (by decide) (by decide) x
  have cvk : ∀ {e p : Int}, CV s b e p → CV s9 b e p := fun {e p} h => h.keep k46 k50 (by omega) (fun x _ _ => ⟨m1.c 198 (by decide) (by decide) x, m1.c 196 (by decide) (by decide) x⟩) (fun x x0 x1 => (a4 x x0 x1).1.2)
  refine hQ s9 m1 g85 ⟨by omega, by omega, by omega, fun e e0 e1 => ?_, fun i i0 i1 => ?_, fun i i0 i1 => ?_⟩
  · rw [m1.c 198 (by decide) (by decide), m1.c 197 (by decide) (by decide)]
    have := a4 e e0 (by omega)
    omega
  · unfold VAL
    rw [g2, g3, g4, g5, k46, m1.c 142 (by decide) (by decide), g85]
    by_cases c : i = s.1 139 85
    · rw [if_pos c, if_pos c, if_pos c, if_pos c]
      obtain ⟨w1, w2, w3, w4⟩ := vc
      refine ⟨w1, fun h => ⟨(w2 h).1, cvk (w2 h).2⟩, fun h => ?_, fun h hn => ?_⟩
      · have := w3 h; omega
      · have := w4 h hn; omega
    · rw [if_neg c, if_neg c, if_neg c, if_neg c]
      obtain ⟨w1, w2, w3, w4⟩ := a5 i i0 (by omega)
      refine ⟨w1, fun h => ⟨(w2 h).1, cvk (w2 h).2⟩, fun h => ?_, fun h hn => ?_⟩
      · have := w3 h; omega
      · have := w4 h hn; omega
  · obtain ⟨w1, w2, w3, w4⟩ := a6 i i0 (by omega)
    unfold FRM
    rw [m1.c 188 (by decide) (by decide), m1.c 189 (by decide) (by decide), m1.c 190 (by decide) (by decide), m1.c 191 (by decide) (by decide), k46, m1.c 142 (by decide) (by decide), g85]
    exact ⟨w1, w2, cvk w3, fun h1 h2 => by have := w4 h1 h2; omega⟩
theorem WF.kcv {s : ST} {b e p k : Int} (w : WF s b) (h : CV s b e p) (p0 : 0 ≤ p) (p1 : p < s.1 142 b) (k0 : 0 ≤ k) (k1 : k < ar (s.1 146 (40 * b + p))) (h3 : s.1 146 (40 * b + p) ≠ 3) : CV s b e (s.1 152 (3 * (40 * b + p) + k)) := by
  have hk := w.kid p0 p1 k0 k1
  refine ⟨h.1, fun f f0 f1 f2 f3 => ?_⟩
  by_cases c1 : f < p
  · exact h.2 f f0 c1 (by omega) f3
  · by_cases c2 : f = p
    · rw [c2] at f3; exact absurd f3 h3
    · exfalso
      obtain ⟨j, j0, j1, j2, j3⟩ := w.1.part p0 p1 (show p < f by omega) (show f ≤ ben s b p by show f ≤ s.1 150 (40 * b + p); omega)
      have hj := w.1.kid p0 p1 j0 j1
      have hl := w.1.le (q := bkd s b p j) (p := f) (by omega) hj.2.2.2 j2 j3
      have e1 : bkd s b p k = s.1 152 (3 * (40 * b + p) + k) := rfl
      have e2 : ben s b f = s.1 150 (40 * b + f) := rfl
      by_cases c3 : j = k
      · rw [c3] at j2; omega
      · by_cases c4 : j < k
        · have := kd_apart w.1 p0 p1 j0 c4 (show k < ar (bso s b p) from k1)
          omega
        · have := kd_apart w.1 p0 p1 k0 (show k < j by omega) j1
          have hjj := w.1 _ (show 0 ≤ bkd s b p k by omega) (show bkd s b p k < s.1 142 b by omega)
          omega
/-- what a step starts from: the top frame f at place p, its stage told one further -/
def TOPS (s0 s : ST) (b : Int) : Prop := md rF rC s0 s ∧ RNb s b 0 0 1 ∧ s.1 139 88 = 0 ∧ s.1 139 83 = s0.1 139 83 ∧ s.1 139 84 = s0.1 139 84 ∧ 1 ≤ s.1 139 83 ∧ WF s b ∧ s.1 139 28 = b ∧ (0 ≤ s.1 188 (s.1 139 83 - 1) ∧ s.1 188 (s.1 139 83 - 1) < s.1 142 b) ∧ CV s b (s.1 190 (s.1 139 83 - 1)) (s.1 188 (s.1 139 83 - 1))
theorem RNb.full {s : ST} {b k j : Int} (r : RNb s b k j 1) (h : FRM s b (s.1 139 83 - 1)) : RNb s b k j 0 := ⟨r.1, r.2.1, r.2.2.1, r.2.2.2.1, r.2.2.2.2.1, fun i i0 i1 => by
  by_cases c : i = s.1 139 83 - 1
  · rw [c]; exact h
  · exact r.2.2.2.2.2 i i0 (by omega)⟩
theorem wrong_ok {s0 s : ST} {b v : Int} {Q : ST → Prop} (hS : STP s0 b Q) (m0 : md rF rC s0 s) (hv : v ≠ 0) : Q (ui s 139 88 v) := hS _ (m0.tr (md.rf.ui (Or.inl (by decide)))) (Or.inl (by rw [ui_same]; exact hv))
theorem c_X11_stepIf {s0 s : ST} {b g st : Int} {Q : ST → Prop} (hS : STP s0 b Q) (t : TOPS s0 s b) (hg : g = 40 * b + s.1 188 (s.1 139 83 - 1)) (h5 : s.1 146 g = 5) (hst : 0 ≤ st ∧ st ≤ 2) (hres : 1 ≤ st → RES s) (ht : st ≤ 1 → FRM s b (s.1 139 83 - 1)) : C_X11_stepIf s (s.1 139 83 - 1) g st Q := by
  obtain ⟨m0, r, e88, hF, hW, h1, w, h28, v1, v3⟩ := t
  obtain ⟨a1, a2, a3, a4, a5, a6⟩ := id r
  have hb := w.bb
  have nn := w.nn
  subst hg
  have k79 : st ≤ 1 → ∀ k, 0 ≤ k → k ≤ 2 → K_X11_stepIf_79 s (s.1 139 83 - 1) (3 * (40 * b + s.1 188 (s.1 139 83 - 1))) k Q := by
    intro hs1 k k0 k1
    have hk := w.kid v1.1 v1.2 k0 (show k < ar (s.1 146 (40 * b + s.1 188 (s.1 139 83 - 1))) by rw [h5]; show k < 3; omega)
    refine s_X11_stepIf_79 ?_
    (repeat' (with_reducible first | refine ⟨?_, ?_⟩ | intro _))
    all_goals first | omega | skip
    exact c_X11_works hS m0 (r.full (ht hs1)).wk e88 hF hW (by omega) (w.kcv v3 v1.1 v1.2 k0 (by rw [h5]; show k < 3; omega) (by omega)) nn.2.2
  have k45 : (1 ≤ st → RES s) → st ≠ 2 → K_X11_stepIf_45 s (s.1 139 83 - 1) (40 * b + s.1 188 (s.1 139 83 - 1)) st Q := by
    intro hr h2
    refine s_X11_stepIf_45 ?_
    (repeat' (with_reducible first | refine ⟨?_, ?_⟩ | intro _))
    all_goals first | omega | exact k79 (by omega) _ (by omega) (by omega) | (have := hr (by omega); unfold RES at this; omega) | skip
  refine s_X11_stepIf ?_
  (repeat' (with_reducible first | refine ⟨?_, ?_⟩ | intro _))
  all_goals first | omega | exact k45 hres (by omega) | exact wrong_ok hS m0 (by decide) | (have := hres (by omega); unfold RES at this; omega) | skip
  have hr := hres (by omega)
  exact pop_ok hS m0 r (by omega) e88 hF hW h1 (md.rf.ui (Or.inl (by decide))) ui_same (ui_ne (by decide)) hr
theorem c_X11_doOne {s0 s : ST} {b so : Int} {Q : ST → Prop} (hS : STP s0 b Q) (t : TOPS s0 s b) (hres : RES s) : C_X11_doOne s so Q := by
  obtain ⟨m0, r, e88, hF, hW, h1, w, h28, _⟩ := t
  obtain ⟨a1, a2, a3, a4, a5, a6⟩ := id r
  obtain ⟨r0, r1⟩ := hres
  obtain ⟨v1, v2, v3, v4⟩ := a5 (s.1 139 87) r0 r1
  have k107 : ∀ v, 0 ≤ v ∧ v < s.1 139 85 → K_X11_doOne_107 s v Q := fun v hv => s_X11_doOne_107 fun _ _ => c_X11_gives hS m0 r (by omega) e88 hF hW h1 hv
  have k73 : ((0 ≤ s.1 194 (s.1 139 87) ∧ s.1 194 (s.1 139 87) < s.1 139 85) ∧ 0 ≤ s.1 195 (s.1 139 87) ∧ s.1 195 (s.1 139 87) < s.1 139 85) → K_X11_doOne_73 s so Q := by
    intro hv
    have k86 : K_X11_doOne_86 s Q := by
      refine s_X11_doOne_86 ?_
      (repeat' (with_reducible first | refine ⟨?_, ?_⟩ | intro _))
      all_goals first | omega | exact k107 _ hv.1
    refine s_X11_doOne_73 ?_
    (repeat' (with_reducible first | refine ⟨?_, ?_⟩ | intro _))
    all_goals first | omega | exact k86 | exact k107 _ hv.2
  have k36 : ∀ a2 h, (a2 = 0 ∧ h = 2 ∨ a2 ≠ 0 ∧ h = 3) → K_X11_doOne_36 s so a2 (s.1 192 (s.1 139 87)) h Q := by
    intro a2 h hh
    refine s_X11_doOne_36 ?_
    (repeat' (with_reducible first | refine ⟨?_, ?_⟩ | intro _))
    all_goals first | omega | exact wrong_ok hS m0 (by decide) | skip
    · exact k73 (v3 (by omega))
    · exact k73 (v4 (by omega) (by omega))
  have k17 : ∀ a2, K_X11_doOne_17 s so a2 Q := by
    intro a2
    refine s_X11_doOne_17 ?_
    (repeat' (with_reducible first | refine ⟨?_, ?_⟩ | intro _))
    all_goals first | omega | exact k36 _ _ (Or.inl ⟨by omega, rfl⟩) | exact k36 _ _ (Or.inr ⟨by omega, rfl⟩)
  have k12 : K_X11_doOne_12 s so Q := s_X11_doOne_12 fun _ _ => k17 _
  refine s_X11_doOne ?_
  (repeat' (with_reducible first | refine ⟨?_, ?_⟩ | intro _))
  all_goals first | exact k12 | exact k17 _
theorem c_X11_doTwo {s0 s : ST} {b so x y : Int} {Q : ST → Prop} (hS : STP s0 b Q) (t : TOPS s0 s b) (hx : 0 ≤ x ∧ x < s.1 139 85) (hy : 0 ≤ y ∧ y < s.1 139 85) : C_X11_doTwo s so x y Q := by
  obtain ⟨m0, r, e88, hF, hW, h1, w, h28, _⟩ := t
  obtain ⟨a1, a2, a3, a4, a5, a6⟩ := id r
  have after : ∀ (s' : ST) (v : Int), md [(139, 85)] [192, 193, 194, 195] s s' → s'.1 139 85 = s.1 139 85 + 1 → RNb s' b 1 0 1 → v = s.1 139 85 → C_X11_gives s' v Q := fun s' v m' n' r' hv =>
    c_X11_gives hS (m0.tr (m'.mono (by decide) (by decide))) r' (by omega) (by rw [m'.f 139 88 (by decide) (by decide)]; exact e88) (by rw [m'.f 139 83 (by decide) (by decide)]; exact hF) (by rw [m'.f 139 84 (by decide) (by decide)]; exact hW) (by rw [m'.f 139 83 (by decide) (by decide)]; exact h1) (by omega)
  have k147 : ∀ h n, (h = 0 ∨ h = 1) → K_X11_doTwo_147 s h n Q := by
    intro h n hh
    refine s_X11_doTwo_147 fun _ _ _ => c_X11_valueOf r h1 ⟨by omega, fun e => by omega, fun e => by omega, fun e => by omega⟩ fun s' m' n' r' => s_X11_doTwo_152 fun _ _ => after s' _ m' n' r' rfl
  refine s_X11_doTwo ?_
  (repeat' (with_reducible first | refine ⟨?_, ?_⟩ | intro _))
  all_goals first | omega | exact wrong_ok hS m0 (by decide) | exact k147 _ _ (by omega) | skip
  · exact c_X11_valueOf r h1 ⟨by omega, fun e => by omega, fun e => by omega, fun e => by omega⟩ fun s' m' n' r' => s_X11_doTwo_152 fun _ _ => after s' _ m' n' r' rfl
  · exact c_X11_valueOf r h1 ⟨by omega, fun e => by omega, fun e => by omega, fun _ _ => ⟨hx, hy⟩⟩ fun s' m' n' r' => after s' _ m' n' r' rfl
  · exact c_X11_valueOf r h1 ⟨by omega, fun e => by omega, fun _ => ⟨hx, hy⟩, fun e => by omega⟩ fun s' m' n' r' => after s' _ m' n' r' rfl
