/-! THE REFERENCE: links, unite, isSound, makes. Every call returns. -/
def itr (f : Int → Int) : Nat → Int → Int
  | 0, t => t
  | n + 1, t => itr f n (f t)
theorem itr_add (f : Int → Int) : ∀ (k m : Nat) (t : Int), itr f (k + m) t = itr f m (itr f k t) := by
  intro k
  induction k with
  | zero => intro m t; rw [Nat.zero_add]; rfl
  | succ k ih => intro m t; rw [Nat.succ_add]; exact ih m (f t)
theorem itr_fix {f : Int → Int} {r : Int} (h : f r = r) : ∀ m : Nat, itr f m r = r := by
  intro m
  induction m with
  | zero => rfl
  | succ m ih => show itr f m (f r) = r; rw [h]; exact ih
theorem itr_one {f : Int → Int} {t a b : Int} {i j : Nat} (ha : f a = a) (hb : f b = b) (e1 : a = itr f i t) (e2 : b = itr f j t) : a = b := by
  have h1 : itr f (i + j) t = a := by rw [itr_add, ← e1]; exact itr_fix ha j
  have h2 : itr f (j + i) t = b := by rw [itr_add, ← e2]; exact itr_fix hb i
  rw [← h1, ← h2, Nat.add_comm]
noncomputable def rp (f : Int → Int) (t : Int) : Int := @dite _ (∃ n, f (itr f n t) = itr f n t) (Classical.propDecidable _) (fun h => itr f h.choose t) (fun _ => t)
theorem rp_of {f : Int → Int} {t r : Int} {k : Nat} (hr : f r = r) (e : r = itr f k t) : rp f t = r := by
  have h : ∃ n, f (itr f n t) = itr f n t := ⟨k, by rw [← e]; exact hr⟩
  unfold rp
  rw [dif_pos h]
  exact itr_one h.choose_spec hr rfl e
def LR (f : Int → Int) (N : Int) : Prop := ∀ t, 0 ≤ t → t < N → 0 ≤ f t ∧ f t < N
def LA (f : Int → Int) (N : Int) : Prop := ∀ t, 0 ≤ t → t < N → ∃ n, f (itr f n t) = itr f n t
def LI (s : ST) (N : Int) : Prop := LR (s.1 164) N ∧ LA (s.1 164) N
theorem k_find {N : Int} {Q : ST → Int → Prop} {s : ST} (hN : N ≤ 12000) (h : LR (s.1 164) N) : ∀ (n : Nat) (t : Int), 0 ≤ t → t < N → s.1 164 (itr (s.1 164) n t) = itr (s.1 164) n t → (∀ r, 0 ≤ r → r < N → s.1 164 r = r → (∃ k, r = itr (s.1 164) k t) → Q s r) → K_X11_find_2 s t Q := by
  intro n
  induction n with
  | zero =>
    intro t h0 h1 hf hQ
    have hf : s.1 164 t = t := hf
    refine s_X11_find_2 ?_
    (repeat' (with_reducible first | refine ⟨?_, ?_⟩ | intro _))
    all_goals first | omega | skip
    exact hQ t h0 h1 hf ⟨0, rfl⟩
  | succ n ih =>
    intro t h0 h1 hf hQ
    refine s_X11_find_2 ?_
    (repeat' (with_reducible first | refine ⟨?_, ?_⟩ | intro _))
    all_goals first | omega | skip
    · rename_i e
      exact hQ t h0 h1 e ⟨0, rfl⟩
    · exact ih _ (h t h0 h1).1 (h t h0 h1).2 hf (fun r a b c d => hQ r a b c (d.elim fun k e => ⟨k + 1, e⟩))
theorem c_X11_find {N : Int} {s : ST} {t : Int} {Q : ST → Int → Prop} (hN : N ≤ 12000) (h : LI s N) (h0 : 0 ≤ t) (h1 : t < N) (hQ : ∀ r, 0 ≤ r → r < N → s.1 164 r = r → r = rp (s.1 164) t → Q s r) : C_X11_find s t Q := by
  obtain ⟨n, hn⟩ := h.2 t h0 h1
  exact s_X11_find fun _ _ => k_find hN h.1 n t h0 h1 hn (fun r a b c d => hQ r a b c (d.elim fun k e => (rp_of c e).symm))
/-! counting -/
def cn (p : Int → Bool) : Nat → Nat
  | 0 => 0
  | n + 1 => cn p n + (if p (n : Int) then 1 else 0)
theorem cn_le (p : Int → Bool) : ∀ n : Nat, cn p n ≤ n := by
  intro n
  induction n with
  | zero => exact Nat.le_refl _
  | succ n ih => show cn p n + (if p (n : Int) then 1 else 0) ≤ n + 1; split <;> omega
theorem cn_mono {p q : Int → Bool} : ∀ n : Nat, (∀ i : Int, 0 ≤ i → i < (n : Int) → p i = true → q i = true) → cn p n ≤ cn q n := by
  intro n
  induction n with
  | zero => intro _; exact Nat.le_refl _
  | succ n ih =>
    intro h
    have h1 := ih (fun i a b c => h i a (by omega) c)
    have h2 := h (n : Int) (by omega) (by omega)
    show cn p n + (if p (n : Int) then 1 else 0) ≤ cn q n + (if q (n : Int) then 1 else 0)
    by_cases e : p (n : Int) = true
    · rw [if_pos e, if_pos (h2 e)]; omega
    · rw [if_neg e]; omega
theorem cn_congr {p q : Int → Bool} (n : Nat) (h : ∀ i : Int, 0 ≤ i → i < (n : Int) → p i = q i) : cn p n = cn q n := by
  have h1 := cn_mono (p := p) (q := q) n (fun i a b c => by rw [← h i a b]; exact c)
  have h2 := cn_mono (p := q) (q := p) n (fun i a b c => by rw [h i a b]; exact c)
  omega
theorem cn_del {p q : Int → Bool} {v : Int} (h0 : 0 ≤ v) (hp : p v = true) (hq : q v = false) : ∀ n : Nat, v < (n : Int) → (∀ i : Int, 0 ≤ i → i < (n : Int) → i ≠ v → q i = p i) → cn q n + 1 = cn p n := by
  intro n
  induction n with
  | zero => intro h1 _; omega
  | succ n ih =>
    intro h1 h
    show cn q n + (if q (n : Int) then 1 else 0) + 1 = cn p n + (if p (n : Int) then 1 else 0)
    by_cases e : v = (n : Int)
    · have h3 : cn q n = cn p n := cn_congr n (fun i a b => h i a (by omega) (by omega))
      rw [← e, hp, hq, h3]; rfl
    · have h3 := ih (by omega) (fun i a b c => h i a (by omega) c)
      rw [h (n : Int) (by omega) (by omega) (fun x => e x.symm)]
      omega
/-! what the terms are -/
def TV (s : ST) (N : Int) : Prop := (0 ≤ N ∧ N ≤ 12000) ∧ ∀ t, 0 ≤ t → t < N → (0 ≤ s.1 161 t ∧ s.1 161 t ≤ 5) ∧ (0 ≤ s.1 162 t ∧ s.1 162 t < N) ∧ (0 ≤ s.1 163 t ∧ s.1 163 t < N)
def Rt (s : ST) (N : Int) : Nat := cn (fun t => decide (s.1 164 t = t)) N.toNat
def UB (s : ST) (N : Int) : Nat := cn (fun t => decide (s.1 164 t = t) && decide (4 ≤ s.1 161 t)) N.toNat
def bins (s : ST) (N : Int) : Nat := cn (fun t => decide (4 ≤ s.1 161 t)) N.toNat
theorem UB_le (s : ST) (N : Int) : UB s N ≤ bins s N := cn_mono _ (fun i _ _ h => by rw [Bool.and_eq_true] at h; exact h.2)
theorem TV.keep {fs : List (Nat × Int)} {cs : List Nat} {s s' : ST} {N : Int} (h : TV s N) (hm : md fs cs s s') (h1 : (fs.all fun q => decide (q.1 ≠ 161)) = true) (h2 : decide (161 ∉ cs) = true) (h3 : (fs.all fun q => decide (q.1 ≠ 162)) = true) (h4 : decide (162 ∉ cs) = true) (h5 : (fs.all fun q => decide (q.1 ≠ 163)) = true) (h6 : decide (163 ∉ cs) = true) : TV s' N := by
  refine ⟨h.1, fun t a b => ?_⟩
  rw [hm.c 161 h1 h2, hm.c 162 h3 h4, hm.c 163 h5 h6]
  exact h.2 t a b
theorem LI.keep {fs : List (Nat × Int)} {cs : List Nat} {s s' : ST} {N : Int} (h : LI s N) (hm : md fs cs s s') (h1 : (fs.all fun q => decide (q.1 ≠ 164)) = true) (h2 : decide (164 ∉ cs) = true) : LI s' N := by
  unfold LI
  rw [show s'.1 164 = s.1 164 from funext fun b => hm.c 164 h1 h2 b]
  exact h
theorem link_LA {f g : Int → Int} {x y : Int} (hx : g x = y) (hy : f y = y) (hxy : x ≠ y) (hg : ∀ t, t ≠ x → g t = f t) : ∀ (n : Nat) (t : Int), f (itr f n t) = itr f n t → ∃ k, g (itr g k t) = itr g k t := by
  have gy : g y = y := by rw [hg y (fun e => hxy e.symm)]; exact hy
  have atx : ∃ k, g (itr g k x) = itr g k x := ⟨1, by show g (g x) = g x; rw [hx]; exact gy⟩
  intro n
  induction n with
  | zero =>
    intro t h
    by_cases e : t = x
    · rw [e]; exact atx
    · exact ⟨0, by show g t = t; rw [hg t e]; exact h⟩
  | succ n ih =>
    intro t h
    by_cases e : t = x
    · rw [e]; exact atx
    · obtain ⟨k, hk⟩ := ih (f t) h
      refine ⟨k + 1, ?_⟩
      show g (itr g k (g t)) = itr g k (g t)
      rw [hg t e]; exact hk
theorem link_upd {s s9 : ST} {N x y : Int} (hl : LI s N) (hx : 0 ≤ x ∧ x < N) (hy : 0 ≤ y ∧ y < N) (rx : s.1 164 x = x) (ry : s.1 164 y = y) (hxy : x ≠ y) (hm : md [] [166] (ui s 164 x y) s9) :
    LI s9 N ∧ Rt s9 N + 1 = Rt s N ∧ UB s9 N ≤ UB s N ∧ (4 ≤ s.1 161 x → UB s9 N + 1 = UB s N) := by
  have gx : s9.1 164 x = y := by rw [hm.c 164 (by decide) (by decide), ui_same]
  have gn : ∀ t, t ≠ x → s9.1 164 t = s.1 164 t := fun t e => by rw [hm.c 164 (by decide) (by decide), ui_ne e]
  have g1 : ∀ t, s9.1 161 t = s.1 161 t := fun t => by rw [hm.c 161 (by decide) (by decide), ui_cell (by decide)]
  refine ⟨⟨fun t a b => ?_, fun t a b => ?_⟩, ?_, ?_, fun h4 => ?_⟩
  · by_cases e : t = x
    · rw [e, gx]; exact hy
    · rw [gn t e]; exact hl.1 t a b
  · obtain ⟨n, hn⟩ := hl.2 t a b
    exact link_LA gx ry hxy gn n t hn
  · refine cn_del hx.1 (v := x) (decide_eq_true rx) (decide_eq_false ?_) _ (by omega) (fun i _ _ e => ?_)
    · rw [gx]; exact fun e => hxy e.symm
    · show decide (s9.1 164 i = i) = decide (s.1 164 i = i); rw [gn i e]
  · refine cn_mono _ (fun i _ _ h => ?_)
    rw [Bool.and_eq_true, decide_eq_true_eq, decide_eq_true_eq] at h ⊢
    by_cases e : i = x
    · rw [e, gx] at h; exact absurd h.1 (fun q => hxy q.symm)
    · rw [gn i e, g1] at h; exact h
  · refine cn_del hx.1 (v := x) ?_ ?_ _ (by omega) (fun i _ _ e => ?_)
    · rw [Bool.and_eq_true, decide_eq_true_eq, decide_eq_true_eq]; exact ⟨rx, h4⟩
    · rw [Bool.and_eq_false_iff]; exact Or.inl (decide_eq_false (by rw [gx]; exact fun e => hxy e.symm))
    · show (decide (s9.1 164 i = i) && decide (4 ≤ s9.1 161 i)) = (decide (s.1 164 i = i) && decide (4 ≤ s.1 161 i)); rw [gn i e, g1]
def PN (s : ST) (N a : Int) : Prop := ∀ i, 0 ≤ i → i < a → 0 ≤ s.1 166 i ∧ s.1 166 i < N
theorem k_unite {N : Int} {Q : ST → Int → Prop} : ∀ (m : Nat) (s : ST) (a : Int), a + 4 * (Rt s N : Int) ≤ (m : Int) → TV s N → LI s N → PN s N a → a + 2 * (UB s N : Int) ≤ 11998 → (∃ h : Int, a = 2 * h ∧ 0 ≤ h) → (∀ s' v, md [] [164, 166] s s' → LI s' N → Q s' v) → K_X11_unite_16 s a Q := by
  intro m
  induction m with
  | zero =>
    intro s a hm ht hl hp hu he hQ
    obtain ⟨h, rfl, h0⟩ := he
    refine s_X11_unite_16 ?_
    (repeat' (with_reducible first | refine ⟨?_, ?_⟩ | intro _))
    all_goals first | exact hQ s _ md.rf hl | omega
  | succ m ih =>
    intro s a hm ht hl hp hu he hQ
    obtain ⟨h, rfl, h0⟩ := he
    have hN := ht.1
    have go : ∀ s9 (b : Int), md [] [164, 166] s s9 → b + 4 * (Rt s9 N : Int) ≤ (m : Int) → LI s9 N → PN s9 N b → b + 2 * (UB s9 N : Int) ≤ 11998 → (∃ h : Int, b = 2 * h ∧ 0 ≤ h) → K_X11_unite_16 s9 b Q := fun s9 b m9 h1 h2 h3 h4 h5 => ih s9 b h1 (ht.keep m9 (by decide) (by decide) (by decide) (by decide) (by decide) (by decide)) h2 h3 h4 h5 (fun s' v m' l' => hQ s' v (m9.tr m') l')
    refine s_X11_unite_16 ?_
    (repeat' (with_reducible first | refine ⟨?_, ?_⟩ | intro _))
    all_goals first | exact hQ s _ md.rf hl | omega | skip
    have q1 := hp (2 * h - 1) (by omega) (by omega)
    have q2 := hp (2 * h - 2) (by omega) (by omega)
    refine c_X11_find hN.2 hl q1.1 q1.2 fun x x0 x1 rx _ => ?_
    (repeat' (with_reducible first | refine ⟨?_, ?_⟩ | intro _))
    all_goals first | omega | skip
    refine c_X11_find hN.2 hl q2.1 q2.2 fun y y0 y1 ry _ => ?_
    have tx := ht.2 x x0 x1
    have ty := ht.2 y y0 y1
    have pk : ∀ {s9 : ST}, md [] [164] s s9 → PN s9 N (2 * h - 2) := fun {s9} m9 i a b => by rw [m9.c 166 (by decide) (by decide)]; exact hp i a (by omega)
    (repeat' (with_reducible first | refine ⟨?_, ?_⟩ | intro _))
    all_goals first | omega | exact hQ s _ md.rf hl | skip
    · rename_i e1 e2 e3 e4 e5 e6
      obtain ⟨l9, r9, u9, b9⟩ := link_upd (s9 := ui (ui (ui (ui (ui s 164 x y) 166 (2 * h - 2) (s.1 162 x)) 166 (2 * h - 2 + 1) (s.1 162 y)) 166 (2 * h - 2 + 2) (s.1 163 x)) 166 (2 * h - 2 + 2 + 1) (s.1 163 y)) hl ⟨x0, x1⟩ ⟨y0, y1⟩ rx ry e1 (by repeat' (first | exact md.rf | assumption | refine md.ui ?_ ?_ | refine md.uj ?_ ?_ | exact Or.inr (by decide) | exact Or.inl (by decide)))
      have b9 := b9 (by omega)
      refine go _ _ (by repeat' (first | exact md.rf | assumption | refine md.ui ?_ ?_ | refine md.uj ?_ ?_ | exact Or.inr (by decide) | exact Or.inl (by decide))) (by omega) l9 (fun i i0 i1 => ?_) (by omega) ⟨h + 1, by omega, by omega⟩
      by_cases c3 : i = 2 * h - 2 + 2 + 1
      · rw [c3, ui_same]; exact ty.2.2
      · rw [ui_ne c3]
        by_cases c2 : i = 2 * h - 2 + 2
        · rw [c2, ui_same]; exact tx.2.2
        · rw [ui_ne c2]
          by_cases c1 : i = 2 * h - 2 + 1
          · rw [c1, ui_same]; exact ty.2.1
          · rw [ui_ne c1]
            by_cases c0 : i = 2 * h - 2
            · rw [c0, ui_same]; exact tx.2.1
            · rw [ui_ne c0, ui_cell (by decide)]; exact hp i i0 (by omega)
    · rename_i e1 e2 e3 e4 e5 e6
      obtain ⟨l9, r9, u9, b9⟩ := link_upd (s9 := ui (ui (ui s 164 x y) 166 (2 * h - 2) (s.1 162 x)) 166 (2 * h - 2 + 1) (s.1 162 y)) hl ⟨x0, x1⟩ ⟨y0, y1⟩ rx ry e1 (by repeat' (first | exact md.rf | assumption | refine md.ui ?_ ?_ | refine md.uj ?_ ?_ | exact Or.inr (by decide) | exact Or.inl (by decide)))
      refine go _ _ (by repeat' (first | exact md.rf | assumption | refine md.ui ?_ ?_ | refine md.uj ?_ ?_ | exact Or.inr (by decide) | exact Or.inl (by decide))) (by omega) l9 (fun i i0 i1 => ?_) (by omega) ⟨h, by omega, by omega⟩
      by_cases c1 : i = 2 * h - 2 + 1
      · rw [c1, ui_same]; exact ty.2.1
      · rw [ui_ne c1]
        by_cases c0 : i = 2 * h - 2
        · rw [c0, ui_same]; exact tx.2.1
        · rw [ui_ne c0, ui_cell (by decide)]; exact hp i i0 (by omega)
    · rename_i e1 e2 e3 e4 e5
      obtain ⟨l9, r9, u9, b9⟩ := link_upd (s9 := ui s 164 x y) hl ⟨x0, x1⟩ ⟨y0, y1⟩ rx ry e1 md.rf
      exact go _ _ (by repeat' (first | exact md.rf | assumption | refine md.ui ?_ ?_ | refine md.uj ?_ ?_ | exact Or.inr (by decide) | exact Or.inl (by decide))) (by omega) l9 (pk (by repeat' (first | exact md.rf | assumption | refine md.ui ?_ ?_ | refine md.uj ?_ ?_ | exact Or.inr (by decide) | exact Or.inl (by decide)))) (by omega) ⟨h - 1, by omega, by omega⟩
    · rename_i e1 e2 e3
      obtain ⟨l9, r9, u9, b9⟩ := link_upd (s9 := ui s 164 y x) hl ⟨y0, y1⟩ ⟨x0, x1⟩ ry rx (fun e => e1 e.symm) md.rf
      exact go _ _ (by repeat' (first | exact md.rf | assumption | refine md.ui ?_ ?_ | refine md.uj ?_ ?_ | exact Or.inr (by decide) | exact Or.inl (by decide))) (by omega) l9 (pk (by repeat' (first | exact md.rf | assumption | refine md.ui ?_ ?_ | refine md.uj ?_ ?_ | exact Or.inr (by decide) | exact Or.inl (by decide)))) (by omega) ⟨h - 1, by omega, by omega⟩
    · rename_i e1 e2
      obtain ⟨l9, r9, u9, b9⟩ := link_upd (s9 := ui s 164 x y) hl ⟨x0, x1⟩ ⟨y0, y1⟩ rx ry e1 md.rf
      exact go _ _ (by repeat' (first | exact md.rf | assumption | refine md.ui ?_ ?_ | refine md.uj ?_ ?_ | exact Or.inr (by decide) | exact Or.inl (by decide))) (by omega) l9 (pk (by repeat' (first | exact md.rf | assumption | refine md.ui ?_ ?_ | refine md.uj ?_ ?_ | exact Or.inr (by decide) | exact Or.inl (by decide)))) (by omega) ⟨h - 1, by omega, by omega⟩
    · exact go _ _ md.rf (by omega) hl (pk md.rf) (by omega) ⟨h - 1, by omega, by omega⟩
theorem c_X11_unite {N : Int} {s : ST} {p q : Int} {Q : ST → Int → Prop} (ht : TV s N) (hl : LI s N) (hb : (bins s N : Int) ≤ 5990) (hp : 0 ≤ p ∧ p < N) (hq : 0 ≤ q ∧ q < N) (hQ : ∀ s' v, md [] [164, 166] s s' → LI s' N → Q s' v) : C_X11_unite s p q Q := by
  refine s_X11_unite ?_
  (repeat' (with_reducible first | refine ⟨?_, ?_⟩ | intro _))
  all_goals first | omega | skip
  have hu := UB_le s N
  have eu : UB (ui (ui s 166 0 p) 166 1 q) N = UB s N := rfl
  have er : Rt (ui (ui s 166 0 p) 166 1 q) N = Rt s N := rfl
  refine k_unite (2 + 4 * Rt s N) _ 2 (by rw [er]; omega) (ht.keep (fs := []) (cs := [166]) (by repeat' (first | exact md.rf | assumption | refine md.ui ?_ ?_ | refine md.uj ?_ ?_ | exact Or.inr (by decide) | exact Or.inl (by decide))) (by decide) (by decide) (by decide) (by decide) (by decide) (by decide)) (hl.keep (fs := []) (cs := [166]) (by repeat' (first | exact md.rf | assumption | refine md.ui ?_ ?_ | refine md.uj ?_ ?_ | exact Or.inr (by decide) | exact Or.inl (by decide))) (by decide) (by decide)) (fun i i0 i1 => ?_) (by rw [eu]; omega) ⟨1, by omega, by omega⟩ (fun s' v m' l' => hQ s' v (md.tr (by repeat' (first | exact md.rf | assumption | refine md.ui ?_ ?_ | refine md.uj ?_ ?_ | exact Or.inr (by decide) | exact Or.inl (by decide))) m') l')
  by_cases c : i = 1
  · rw [c, ui_same]; exact hq
  · rw [ui_ne c, show i = 0 by omega, ui_same]; exact hp
/-! isSound: the edges into each root from the roots that are not taken off yet -/
def ctr (a b : Int) (t3 : Bool) (x : Int) : Int := (if a = x then 1 else 0) + (if t3 then 0 else if b = x then 1 else 0)
theorem ctr_f (a b x : Int) : ctr a b false x = (if a = x then 1 else 0) + (if b = x then 1 else 0) := rfl
theorem ctr_t (a b x : Int) : ctr a b true x = (if a = x then 1 else 0) + 0 := rfl
theorem ctr_nn (a b : Int) (t3 : Bool) (x : Int) : 0 ≤ ctr a b t3 x := by
  unfold ctr
  split <;> split <;> (try split) <;> omega
def dg (L R : Int → Int) (T3 D : Int → Bool) (x : Int) : Nat → Int
  | 0 => 0
  | n + 1 => dg L R T3 D x n + (if D (n : Int) then ctr (L (n : Int)) (R (n : Int)) (T3 (n : Int)) x else 0)
theorem dg_nn (L R : Int → Int) (T3 D : Int → Bool) (x : Int) : ∀ n : Nat, 0 ≤ dg L R T3 D x n := by
  intro n
  induction n with
  | zero => exact Int.le_refl _
  | succ n ih =>
    have := ctr_nn (L (n : Int)) (R (n : Int)) (T3 (n : Int)) x
    show 0 ≤ dg L R T3 D x n + (if D (n : Int) then ctr (L (n : Int)) (R (n : Int)) (T3 (n : Int)) x else 0)
    split <;> omega
theorem dg_congr {L R : Int → Int} {T3 D D' : Int → Bool} {x : Int} : ∀ n : Nat, (∀ i : Int, 0 ≤ i → i < (n : Int) → D' i = D i) → dg L R T3 D' x n = dg L R T3 D x n := by
  intro n
  induction n with
  | zero => intro _; rfl
  | succ n ih =>
    intro h
    show dg L R T3 D' x n + (if D' (n : Int) then ctr (L (n : Int)) (R (n : Int)) (T3 (n : Int)) x else 0) = dg L R T3 D x n + (if D (n : Int) then ctr (L (n : Int)) (R (n : Int)) (T3 (n : Int)) x else 0)
    rw [ih (fun i a b => h i a (by omega)), h (n : Int) (by omega) (by omega)]
theorem dg_del {L R : Int → Int} {T3 D D' : Int → Bool} {x v : Int} (hp : D v = true) (hq : D' v = false) : ∀ n : Nat, v < (n : Int) → 0 ≤ v → (∀ i : Int, 0 ≤ i → i < (n : Int) → i ≠ v → D' i = D i) → dg L R T3 D x n = dg L R T3 D' x n + ctr (L v) (R v) (T3 v) x := by
  intro n
  induction n with
  | zero => intro h1 h0 _; omega
  | succ n ih =>
    intro h1 h0 h
    show dg L R T3 D x n + (if D (n : Int) then ctr (L (n : Int)) (R (n : Int)) (T3 (n : Int)) x else 0) = dg L R T3 D' x n + (if D' (n : Int) then ctr (L (n : Int)) (R (n : Int)) (T3 (n : Int)) x else 0) + ctr (L v) (R v) (T3 v) x
    by_cases e : v = (n : Int)
    · have h3 : dg L R T3 D' x n = dg L R T3 D x n := dg_congr n (fun i a b => h i a (by omega) (by omega))
      rw [h3, ← e, hp, hq, if_pos rfl, if_neg (by decide)]; omega
    · rw [ih (by omega) h0 (fun i a b c => h i a (by omega) c), h (n : Int) (by omega) (by omega) (fun q => e q.symm)]; omega
noncomputable def lfo (s : ST) (t : Int) : Int := rp (s.1 164) (s.1 162 t)
noncomputable def rto (s : ST) (t : Int) : Int := rp (s.1 164) (s.1 163 t)
def t3o (s : ST) (t : Int) : Bool := decide (s.1 161 t = 3)
def mro (s : ST) (t : Int) : Bool := decide (s.1 164 t = t) && decide (2 < s.1 161 t)
/-- s0: where isSound began; D: what is not taken off yet; e: edges told off already -/
def W4 (s0 : ST) (N : Int) (s : ST) (D : Int → Bool) (e : Int → Int) (a n : Int) : Prop :=
  md [] [165, 166] s0 s ∧ (∀ t, 0 ≤ t → t < N → s.1 165 t = dg (lfo s0) (rto s0) (t3o s0) D t N.toNat + e t ∧ 0 ≤ e t) ∧ (∀ t, 0 ≤ t → t < N → D t = true → mro s0 t = true) ∧
  (∀ t, 0 ≤ t → t < N → mro s0 t = true → D t = false → s.1 165 t = 0) ∧ (∀ i, 0 ≤ i → i < n → (0 ≤ s.1 166 i ∧ s.1 166 i < N) ∧ D (s.1 166 i) = true ∧ s.1 165 (s.1 166 i) = 0) ∧
  (∀ i j, 0 ≤ i → i < j → j < n → s.1 166 i ≠ s.1 166 j) ∧ a = (cn D N.toNat : Int) ∧ 0 ≤ n ∧ n ≤ (cn (fun t => D t && decide (s.1 165 t = 0)) N.toNat : Int)
theorem W4.congr {s0 s : ST} {N a n : Int} {D : Int → Bool} {e e' : Int → Int} (h : W4 s0 N s D e a n) (he : ∀ t, e' t = e t) : W4 s0 N s D e' a n := by
  obtain ⟨h1, h2, h3⟩ := h
  exact ⟨h1, fun t a b => by rw [he t]; exact h2 t a b, h3⟩
theorem rp_fix {s : ST} {N t : Int} (hl : LI s N) (h0 : 0 ≤ t) (h1 : t < N) : s.1 164 (rp (s.1 164) t) = rp (s.1 164) t ∧ 0 ≤ rp (s.1 164) t ∧ rp (s.1 164) t < N := by
  obtain ⟨n, hn⟩ := hl.2 t h0 h1
  have hr : ∀ (k : Nat) (u : Int), 0 ≤ u → u < N → 0 ≤ itr (s.1 164) k u ∧ itr (s.1 164) k u < N := by
    intro k
    induction k with
    | zero => intro u a b; exact ⟨a, b⟩
    | succ k ih => intro u a b; exact ih _ (hl.1 u a b).1 (hl.1 u a b).2
  rw [rp_of hn rfl]
  exact ⟨hn, hr n t h0 h1⟩
theorem c_X11_takesOff {s0 s : ST} {N a n p : Int} {D : Int → Bool} {e : Int → Int} {Q : ST → Int → Prop} (hN : N ≤ 12000) (w : W4 s0 N s D e a n) (h0 : 0 ≤ p) (h1 : p < N) (hp : s0.1 164 p = p) (he : 1 ≤ e p)
    (hb : s.1 165 p ≤ 1000000) (hQ : ∀ s' n', W4 s0 N s' D (fun t => if t = p then e t - 1 else e t) a n' → Q s' n') : C_X11_takesOff s p n Q := by
  obtain ⟨w1, w2, w3, w4, w5, w6, w7, w8, w9⟩ := w
  have hd := dg_nn (lfo s0) (rto s0) (t3o s0) D p N.toNat
  have hi := (w2 p h0 h1).1
  have g1 : s.1 161 p = s0.1 161 p := w1.c 161 (by decide) (by decide) p
  have cle := cn_le (fun t => D t && decide (s.1 165 t = 0)) N.toNat
  have rest : ∀ s9 n9, md [] [166] (ui s 165 p (s.1 165 p - 1)) s9 → (∀ i, 0 ≤ i → i < n → s9.1 166 i = s.1 166 i) → (n9 = n ∧ (s.1 165 p - 1 = 0 → mro s0 p = false) ∨ n9 = n + 1 ∧ s9.1 166 n = p ∧ s.1 165 p - 1 = 0 ∧ mro s0 p = true) → W4 s0 N s9 D (fun t => if t = p then e t - 1 else e t) a n9 := by
    intro s9 n9 m9 hk hn
    have ip : s9.1 165 p = s.1 165 p - 1 := by rw [m9.c 165 (by decide) (by decide), ui_same]
    have io : ∀ t, t ≠ p → s9.1 165 t = s.1 165 t := fun t c => by rw [m9.c 165 (by decide) (by decide), ui_ne c]
    have notp : ∀ i, 0 ≤ i → i < n → s.1 166 i ≠ p := fun i a b c => by
      have := (w5 i a b).2.2
      rw [c] at this; omega
    have dp : mro s0 p = true → D p = true := fun hm => by
      cases hD : D p with
      | true => rfl
      | false => have := w4 p h0 h1 hm hD; omega
    refine ⟨w1.tr (md.tr (by repeat' (first | exact md.rf | assumption | refine md.ui ?_ ?_ | refine md.uj ?_ ?_ | exact Or.inr (by decide) | exact Or.inl (by decide))) (m9.mono (by decide) (by decide))), fun t a b => ?_, w3, fun t a b c d => ?_, ?_, ?_, w7, ?_, ?_⟩
    · dsimp only
      by_cases c : t = p
      · subst c; rw [ip, if_pos rfl]; exact ⟨by omega, by omega⟩
      · rw [io t c, if_neg c]; exact w2 t a b
    · by_cases f : t = p
      · subst f
        have := w4 t a b c d; omega
      · rw [io t f]; exact w4 t a b c d
    · intro i a b
      rcases hn with ⟨rfl, _⟩ | ⟨rfl, hp9, hz, hm⟩
      · rw [hk i a b, io _ (notp i a b)]; exact w5 i a b
      · by_cases c : i = n
        · subst c; rw [hp9, ip]; exact ⟨⟨h0, h1⟩, dp hm, hz⟩
        · rw [hk i a (by omega), io _ (notp i a (by omega))]; exact w5 i a (by omega)
    · intro i j a b c
      rcases hn with ⟨rfl, _⟩ | ⟨rfl, hp9, hz, hm⟩
      · rw [hk i a (by omega), hk j (by omega) c]; exact w6 i j a b c
      · by_cases f : j = n
        · subst f; rw [hp9, hk i a b]; exact notp i a b
        · rw [hk i a (by omega), hk j (by omega) (by omega)]; exact w6 i j a b (by omega)
    · omega
    · rcases hn with ⟨rfl, hz⟩ | ⟨rfl, hp9, hz, hm⟩
      · refine Int.le_trans w9 (Int.ofNat_le.mpr (cn_mono _ (fun i a b h => ?_)))
        rw [Bool.and_eq_true, decide_eq_true_eq] at h ⊢
        by_cases f : i = p
        · subst f; omega
        · rw [io i f]; exact h
      · have := cn_del (p := fun t => D t && decide (s9.1 165 t = 0)) (q := fun t => D t && decide (s.1 165 t = 0)) h0 (by rw [Bool.and_eq_true, decide_eq_true_eq, ip]; exact ⟨dp hm, hz⟩) (by rw [Bool.and_eq_false_iff]; exact Or.inr (decide_eq_false (by omega))) N.toNat (by omega) (fun i _ _ f => by show (D i && decide (s.1 165 i = 0)) = (D i && decide (s9.1 165 i = 0)); rw [io i f])
        omega
  have nlt : n < 12000 := by
    have := cn_del (p := fun t => (D t && decide (s.1 165 t = 0)) || decide (t = p)) (q := fun t => D t && decide (s.1 165 t = 0)) h0 (by simp) (by rw [Bool.and_eq_false_iff]; exact Or.inr (decide_eq_false (by omega))) N.toNat (by omega) (fun i _ _ f => by show (D i && decide (s.1 165 i = 0)) = ((D i && decide (s.1 165 i = 0)) || decide (i = p)); rw [decide_eq_false f, Bool.or_false])
    have := cn_le (fun t => (D t && decide (s.1 165 t = 0)) || decide (t = p)) N.toNat
    omega
  have s165 : (ui s 165 p (s.1 165 p - 1)).1 165 p = s.1 165 p - 1 := ui_same
  refine s_X11_takesOff ?_
  (repeat' (with_reducible first | refine ⟨?_, ?_⟩ | intro _))
  all_goals first | omega | skip
  · rename_i c
    rw [s165] at c
    exact hQ _ _ (rest _ _ md.rf (fun i _ _ => ui_cell (by decide)) (Or.inl ⟨rfl, fun z => by omega⟩))
  · rename_i c d
    rw [s165] at c
    refine hQ _ _ (rest _ _ (by repeat' (first | exact md.rf | assumption | refine md.ui ?_ ?_ | refine md.uj ?_ ?_ | exact Or.inr (by decide) | exact Or.inl (by decide))) (fun i _ b => by rw [ui_ne (by omega), ui_cell (by decide)]) (Or.inr ⟨rfl, ui_same, by omega, ?_⟩))
    unfold mro
    rw [Bool.and_eq_true, decide_eq_true_eq, decide_eq_true_eq]
    exact ⟨hp, by omega⟩
  · rename_i c d
    refine hQ _ _ (rest _ _ md.rf (fun i _ _ => ui_cell (by decide)) (Or.inl ⟨rfl, fun z => ?_⟩))
    unfold mro
    rw [Bool.and_eq_false_iff]
    exact Or.inr (decide_eq_false (by omega))
theorem k_sound4 {s0 : ST} {N : Int} {Q : ST → Int → Prop} (ht : TV s0 N) (hl : LI s0 N) (hQ : ∀ s' v, md [] [165, 166] s0 s' → Q s' v) : ∀ (m : Nat) (s : ST) (D : Int → Bool) (a n : Int), cn D N.toNat ≤ m → W4 s0 N s D (fun _ => 0) a n → K_X11_isSound_179 s a n Q := by
  intro m
  have hN := ht.1
  have hdb : ∀ (D : Int → Bool) (t : Int) (n : Nat), dg (lfo s0) (rto s0) (t3o s0) D t n ≤ 2 * (n : Int) := by
    intro D t n
    induction n with
    | zero => exact Int.le_refl _
    | succ n ih =>
      show dg (lfo s0) (rto s0) (t3o s0) D t n + (if D (n : Int) then ctr (lfo s0 (n : Int)) (rto s0 (n : Int)) (t3o s0 (n : Int)) t else 0) ≤ 2 * ((n + 1 : Nat) : Int)
      have : ctr (lfo s0 (n : Int)) (rto s0 (n : Int)) (t3o s0 (n : Int)) t ≤ 2 := by
        unfold ctr
        split <;> split <;> (try split) <;> omega
      split <;> omega
  induction m with
  | zero =>
    intro s D a n hm w
    obtain ⟨w1, w2, w3, w4, w5, w6, w7, w8, w9⟩ := w
    have : cn (fun t => D t && decide (s.1 165 t = 0)) N.toNat ≤ cn D N.toNat := cn_mono _ (fun i _ _ h => by rw [Bool.and_eq_true] at h; exact h.1)
    refine s_X11_isSound_179 ?_
    (repeat' (with_reducible first | refine ⟨?_, ?_⟩ | intro _))
    all_goals first | omega | exact hQ s _ w1
  | succ m ih =>
    intro s D a n hm w
    obtain ⟨w1, w2, w3, w4, w5, w6, w7, w8, w9⟩ := id w
    have cD := cn_le D N.toNat
    have c9 := cn_le (fun t => D t && decide (s.1 165 t = 0)) N.toNat
    refine s_X11_isSound_179 ?_
    (repeat' (with_reducible first | refine ⟨?_, ?_⟩ | intro _))
    all_goals first | omega | exact hQ s _ w1 | skip
    · have := (w5 (n - 1) (by omega) (by omega)).1; omega
    · have := (w5 (n - 1) (by omega) (by omega)).1; omega
    · obtain ⟨⟨t0, t1⟩, dt, it⟩ := w5 (n - 1) (by omega) (by omega)
      have tt := ht.2 _ t0 t1
      generalize hT : s.1 166 (n - 1) = T at *
      have e62 : s.1 162 T = s0.1 162 T := w1.c 162 (by decide) (by decide) T
      have e63 : s.1 163 T = s0.1 163 T := w1.c 163 (by decide) (by decide) T
      have hls : LI s N := hl.keep w1 (by decide) (by decide)
      have f64 : ∀ s9, md [] [165, 166] s0 s9 → s9.1 164 = s0.1 164 := fun s9 m9 => funext fun b => m9.c 164 (by decide) (by decide) b
      -- T is taken off
      have cd := cn_del (p := D) (q := fun t => D t && decide (t ≠ T)) t0 dt (by simp) N.toNat (by omega) (fun i _ _ c => by show (D i && decide (i ≠ T)) = D i; rw [decide_eq_true c, Bool.and_true])
      have ws : W4 s0 N s (fun t => D t && decide (t ≠ T)) (ctr (lfo s0 T) (rto s0 T) (t3o s0 T)) (a - 1) (n - 1) := by
        refine ⟨w1, fun t b c => ?_, fun t b c d => ?_, fun t b c d f => ?_, fun i b c => ?_, fun i j b c d => w6 i j b c (by omega), by omega, by omega, ?_⟩
        · have := dg_del (L := lfo s0) (R := rto s0) (T3 := t3o s0) (D := D) (D' := fun t => D t && decide (t ≠ T)) (x := t) dt (by simp) N.toNat (by omega) t0 (fun i _ _ c => by show (D i && decide (i ≠ T)) = D i; rw [decide_eq_true c, Bool.and_true])
          have h2 : s.1 165 t = dg (lfo s0) (rto s0) (t3o s0) D t N.toNat + 0 := (w2 t b c).1
          exact ⟨by omega, ctr_nn _ _ _ _⟩
        · rw [Bool.and_eq_true] at d
          exact w3 t b c d.1
        · by_cases g : t = T
          · rw [g]; exact it
          · refine w4 t b c d ?_
            have f : (D t && decide (t ≠ T)) = false := f
            rw [decide_eq_true g, Bool.and_true] at f
            exact f
        · obtain ⟨h1, h2, h3⟩ := w5 i b (by omega)
          refine ⟨h1, ?_, h3⟩
          have := w6 i (n - 1) b (by omega) (by omega)
          rw [hT] at this
          rw [Bool.and_eq_true, decide_eq_true_eq]
          exact ⟨h2, this⟩
        · have := cn_del (p := fun t => D t && decide (s.1 165 t = 0)) (q := fun t => (D t && decide (t ≠ T)) && decide (s.1 165 t = 0)) (v := T) t0 (by rw [Bool.and_eq_true, decide_eq_true_eq]; exact ⟨dt, it⟩) (by simp) N.toNat (by omega) (fun i _ _ c => by show ((D i && decide (i ≠ T)) && decide (s.1 165 i = 0)) = (D i && decide (s.1 165 i = 0)); rw [decide_eq_true c, Bool.and_true])
          show n - 1 ≤ ((cn (fun t => (D t && decide (t ≠ T)) && decide (s.1 165 t = 0)) N.toNat : Nat) : Int)
          omega
      have bnd : ∀ (s9 : ST) (D9 : Int → Bool) (e9 : Int → Int) (a9 n9 t : Int), W4 s0 N s9 D9 e9 a9 n9 → (∀ x, e9 x ≤ 2) → 0 ≤ t → t < N → s9.1 165 t ≤ 1000000 := by
        intro s9 D9 e9 a9 n9 t w9 he h0 h1
        have b1 := (w9.2.1 t h0 h1).1
        have b2 := hdb D9 t N.toNat
        have b3 := he t
        omega
      have cle : ∀ x, ctr (lfo s0 T) (rto s0 T) (t3o s0 T) x ≤ 2 := fun x => by unfold ctr; split <;> split <;> (try split) <;> omega
      have rl := rp_fix hl tt.2.1.1 tt.2.1.2
      have rr := rp_fix hl tt.2.2.1 tt.2.2.2
      refine c_X11_find (t := s.1 162 T) hN.2 hls (by rw [e62]; exact tt.2.1.1) (by rw [e62]; exact tt.2.1.2) fun x x0 x1 rx ex => ?_
      rw [f64 s w1, e62] at ex
      have exl : x = lfo s0 T := ex
      have cx : 1 ≤ ctr (lfo s0 T) (rto s0 T) (t3o s0 T) x := by
        unfold ctr; rw [if_pos exl.symm]; split <;> (try split) <;> omega
      refine c_X11_takesOff hN.2 ws x0 x1 (by rw [← f64 s w1]; exact rx) cx (bnd s _ _ _ _ x ws cle x0 x1) fun s6 n6 w6' => ?_
      have g61 : s6.1 161 T = s0.1 161 T := w6'.1.c 161 (by decide) (by decide) T
      (repeat' (with_reducible first | refine ⟨?_, ?_⟩ | intro _))
      · rename_i c
        refine ih s6 _ (a - 1) n6 (by omega) (w6'.congr fun t => ?_)
        have t3 : t3o s0 T = true := decide_eq_true (by rw [← g61]; exact c)
        unfold ctr
        rw [t3, if_pos rfl]
        by_cases q : t = x
        · rw [if_pos q, if_pos (by rw [q]; exact exl.symm)]; omega
        · rw [if_neg q, if_neg (fun h => q (h.symm.trans exl.symm))]; omega
      · rename_i c
        have t3 : t3o s0 T = false := decide_eq_false (by rw [← g61]; exact c)
        have h63 : s6.1 163 T = s0.1 163 T := w6'.1.c 163 (by decide) (by decide) T
        refine c_X11_find (t := s6.1 163 T) hN.2 (hl.keep w6'.1 (by decide) (by decide)) (by rw [h63]; exact tt.2.2.1) (by rw [h63]; exact tt.2.2.2) fun y y0 y1 ry ey => ?_
        rw [f64 s6 w6'.1, h63] at ey
        have eyr : y = rto s0 T := ey
        refine c_X11_takesOff hN.2 w6' y0 y1 (by rw [← f64 s6 w6'.1]; exact ry) ?_ (bnd s6 _ _ _ _ y w6' (fun x' => ?_) y0 y1) fun s8 n8 w8' => ?_
        · unfold ctr
          rw [t3, if_pos (show rto s0 T = y from eyr.symm)]
          by_cases q : y = x
          · rw [if_pos q, if_pos (show lfo s0 T = y by rw [q]; exact exl.symm)]; decide
          · rw [if_neg q]; split <;> decide
        · have := cle x'
          split <;> omega
        · refine ih s8 _ (a - 1) n8 (by omega) (w8'.congr fun t => ?_)
          unfold ctr
          rw [t3]
          rw [if_neg (show ¬ false = true by decide)]
          by_cases q : t = x
          · by_cases r : t = y
            · rw [if_pos r, if_pos q, if_pos (by rw [q]; exact exl.symm), if_pos (by rw [r]; exact eyr.symm)]; omega
            · rw [if_neg r, if_pos q, if_pos (by rw [q]; exact exl.symm), if_neg (fun h => r (h.symm.trans eyr.symm))]; omega
          · by_cases r : t = y
            · rw [if_pos r, if_neg q, if_neg (fun h => q (h.symm.trans exl.symm)), if_pos (by rw [r]; exact eyr.symm)]; omega
            · rw [if_neg r, if_neg q, if_neg (fun h => q (h.symm.trans exl.symm)), if_neg (fun h => r (h.symm.trans eyr.symm))]; omega
theorem k_sound3 {s0 : ST} {N : Int} {Q : ST → Int → Prop} (ht : TV s0 N) (hT : s0.1 139 46 = N) (hl : LI s0 N) (hQ : ∀ s' v, md [] [165, 166] s0 s' → Q s' v) : ∀ (m : Nat) (s : ST) (a n j : Int), N - j ≤ (m : Int) → 0 ≤ j → j ≤ N → md [] [165, 166] s0 s → (∀ t, 0 ≤ t → t < N → s.1 165 t = dg (lfo s0) (rto s0) (t3o s0) (mro s0) t N.toNat) → a = (cn (mro s0) N.toNat : Int) →
    (∀ i, 0 ≤ i → i < n → (0 ≤ s.1 166 i ∧ s.1 166 i < j) ∧ mro s0 (s.1 166 i) = true ∧ s.1 165 (s.1 166 i) = 0) → (∀ i k, 0 ≤ i → i < k → k < n → s.1 166 i ≠ s.1 166 k) → 0 ≤ n → n ≤ (cn (fun t => mro s0 t && decide (s.1 165 t = 0)) j.toNat : Int) → K_X11_isSound_121 s a n j Q := by
  intro m
  have hN := ht.1
  induction m with
  | zero =>
    intro s a n j hm h0 h1 w1 w2 w5 w3 w6 w8 w9
    have h46 := w1.f 139 46 (by decide) (by decide)
    obtain rfl : j = N := by omega
    refine s_X11_isSound_121 ?_
    (repeat' (with_reducible first | refine ⟨?_, ?_⟩ | intro _))
    all_goals first | omega | skip
    exact k_sound4 ht hl hQ _ s (mro s0) a n (Nat.le_refl _) ⟨w1, fun t b c => ⟨by have := w2 t b c; show s.1 165 t = _ + 0; omega, Int.le_refl 0⟩, fun t _ _ d => d, fun t b c d e => absurd (d.symm.trans e) (by decide), w3, w6, w5, w8, w9⟩
  | succ m ih =>
    intro s a n j hm h0 h1 w1 w2 w5 w3 w6 w8 w9
    have h46 := w1.f 139 46 (by decide) (by decide)
    have c9 := cn_le (fun t => mro s0 t && decide (s.1 165 t = 0)) j.toNat
    have hs : (j + 1).toNat = j.toNat + 1 := by omega
    have hj : ((j.toNat : Nat) : Int) = j := by omega
    have step : ∀ (s9 : ST), s9.1 165 = s.1 165 → (cn (fun t => mro s0 t && decide (s9.1 165 t = 0)) (j + 1).toNat : Int) = cn (fun t => mro s0 t && decide (s.1 165 t = 0)) j.toNat + (if (mro s0 j && decide (s.1 165 j = 0)) = true then 1 else 0) := by
      intro s9 e9
      rw [hs, e9]
      show ((cn (fun t => mro s0 t && decide (s.1 165 t = 0)) j.toNat + (if (mro s0 ((j.toNat : Nat) : Int) && decide (s.1 165 ((j.toNat : Nat) : Int) = 0)) = true then 1 else 0) : Nat) : Int) = _
      rw [hj]
      split <;> omega
    have e64 := w1.c 164 (by decide) (by decide) j
    have e61 := w1.c 161 (by decide) (by decide) j
    have skipj : K_X11_isSound_121 s a n (j + 1) Q ∨ ¬ j < N := by
      by_cases hjn : j < N
      · refine Or.inl (ih s a n (j + 1) (by omega) (by omega) (by omega) w1 w2 w5 (fun i b c => ?_) w6 w8 ?_)
        · have := w3 i b c
          exact ⟨⟨this.1.1, by omega⟩, this.2⟩
        · have := step s rfl
          split at this <;> omega
      · exact Or.inr hjn
    refine s_X11_isSound_121 ?_
    (repeat' (with_reducible first | refine ⟨?_, ?_⟩ | intro _))
    all_goals first | omega | exact skipj.elim id (fun h => absurd (by omega) h) | skip
    · rename_i c
      obtain rfl : j = N := by omega
      exact k_sound4 ht hl hQ _ s (mro s0) a n (Nat.le_refl _) ⟨w1, fun t b c => ⟨by have := w2 t b c; show s.1 165 t = _ + 0; omega, Int.le_refl 0⟩, fun t _ _ d => d, fun t b c d e => absurd (d.symm.trans e) (by decide), w3, w6, w5, w8, w9⟩
    · rename_i c0 c1 c2 c3
      have hmr : mro s0 j = true := by
        unfold mro
        rw [Bool.and_eq_true, decide_eq_true_eq, decide_eq_true_eq]
        omega
      have hz : s.1 165 j = 0 := by
        have := w2 j h0 (by omega)
        have := dg_nn (lfo s0) (rto s0) (t3o s0) (mro s0) j N.toNat
        omega
      have e165 : (ui s 166 n j).1 165 = s.1 165 := funext fun b => ui_cell (by decide)
      refine ih _ a (n + 1) (j + 1) (by omega) (by omega) (by omega) (w1.tr (by repeat' (first | exact md.rf | assumption | refine md.ui ?_ ?_ | refine md.uj ?_ ?_ | exact Or.inr (by decide) | exact Or.inl (by decide)))) (fun t b c => by rw [e165]; exact w2 t b c) w5 (fun i b c => ?_) (fun i k b c d => ?_) (by omega) ?_
      · rw [e165]
        by_cases g : i = n
        · rw [g, ui_same]; exact ⟨⟨h0, by omega⟩, hmr, hz⟩
        · rw [ui_ne g]
          have := w3 i b (by omega)
          exact ⟨⟨this.1.1, by omega⟩, this.2⟩
      · rw [ui_ne (k := n) (show i ≠ n by omega)]
        by_cases g : k = n
        · rw [g, ui_same]
          have := (w3 i b (by omega)).1
          omega
        · rw [ui_ne g]; exact w6 i k b c (by omega)
      · have := step (ui s 166 n j) e165
        rw [if_pos (by rw [hmr, hz]; rfl)] at this
        omega
theorem k_sound2 {s0 : ST} {N : Int} {Q : ST → Int → Prop} (ht : TV s0 N) (hT : s0.1 139 46 = N) (hl : LI s0 N) (hQ : ∀ s' v, md [] [165, 166] s0 s' → Q s' v) : ∀ (m : Nat) (s : ST) (a j : Int), N - j ≤ (m : Int) → 0 ≤ j → j ≤ N → md [] [165] s0 s → (∀ t, 0 ≤ t → t < N → s.1 165 t = dg (lfo s0) (rto s0) (t3o s0) (mro s0) t j.toNat) → a = (cn (mro s0) j.toNat : Int) → K_X11_isSound_27 s a j Q := by
  intro m
  have hN := ht.1
  have fin : ∀ (s : ST) (a : Int), md [] [165] s0 s → (∀ t, 0 ≤ t → t < N → s.1 165 t = dg (lfo s0) (rto s0) (t3o s0) (mro s0) t N.toNat) → a = (cn (mro s0) N.toNat : Int) → K_X11_isSound_121 s a 0 0 Q := fun s a w1 w2 w5 =>
    k_sound3 ht hT hl hQ N.toNat s a 0 0 (by omega) (by omega) hN.1 (w1.mono (by decide) (by decide)) w2 w5 (fun i _ _ => by omega) (fun i k _ _ _ => by omega) (by omega) (by omega)
  induction m with
  | zero =>
    intro s a j hm h0 h1 w1 w2 w5
    have h46 := w1.f 139 46 (by decide) (by decide)
    obtain rfl : j = N := by omega
    refine s_X11_isSound_27 ?_
    (repeat' (with_reducible first | refine ⟨?_, ?_⟩ | intro _))
    all_goals first | omega | exact fin s a w1 w2 w5
  | succ m ih =>
    intro s a j hm h0 h1 w1 w2 w5
    have h46 := w1.f 139 46 (by decide) (by decide)
    have hs : (j + 1).toNat = j.toNat + 1 := by omega
    have hj : ((j.toNat : Nat) : Int) = j := by omega
    have e64 := w1.c 164 (by decide) (by decide) j
    have e61 := w1.c 161 (by decide) (by decide) j
    have e62 := w1.c 162 (by decide) (by decide) j
    have e63 := w1.c 163 (by decide) (by decide) j
    have f64 : s.1 164 = s0.1 164 := funext fun b => w1.c 164 (by decide) (by decide) b
    have cb := cn_le (mro s0) j.toNat
    have stepc : (cn (mro s0) (j + 1).toNat : Int) = cn (mro s0) j.toNat + (if mro s0 j = true then 1 else 0) := by
      rw [hs]
      show ((cn (mro s0) j.toNat + (if mro s0 ((j.toNat : Nat) : Int) = true then 1 else 0) : Nat) : Int) = _
      rw [hj]
      split <;> omega
    have stepd : ∀ t, dg (lfo s0) (rto s0) (t3o s0) (mro s0) t (j + 1).toNat = dg (lfo s0) (rto s0) (t3o s0) (mro s0) t j.toNat + (if mro s0 j = true then ctr (lfo s0 j) (rto s0 j) (t3o s0 j) t else 0) := by
      intro t
      rw [hs]
      show dg (lfo s0) (rto s0) (t3o s0) (mro s0) t j.toNat + (if mro s0 ((j.toNat : Nat) : Int) = true then ctr (lfo s0 ((j.toNat : Nat) : Int)) (rto s0 ((j.toNat : Nat) : Int)) (t3o s0 ((j.toNat : Nat) : Int)) t else 0) = _
      rw [hj]
    have hdb : ∀ t (n : Nat), dg (lfo s0) (rto s0) (t3o s0) (mro s0) t n ≤ 2 * (n : Int) := by
      intro t n
      induction n with
      | zero => exact Int.le_refl _
      | succ n ih =>
        show dg (lfo s0) (rto s0) (t3o s0) (mro s0) t n + (if mro s0 (n : Int) then ctr (lfo s0 (n : Int)) (rto s0 (n : Int)) (t3o s0 (n : Int)) t else 0) ≤ 2 * ((n + 1 : Nat) : Int)
        have : ctr (lfo s0 (n : Int)) (rto s0 (n : Int)) (t3o s0 (n : Int)) t ≤ 2 := by
          unfold ctr
          split <;> split <;> (try split) <;> omega
        split <;> omega
    have skipj : mro s0 j = false → j < N → K_X11_isSound_27 s a (j + 1) Q := fun hf hjn =>
      ih s a (j + 1) (by omega) (by omega) (by omega) w1 (fun t b c => by rw [stepd t, hf, if_neg (by decide)]; have := w2 t b c; omega) (by rw [stepc, hf, if_neg (by decide)]; omega)
    have nm1 : ¬ s.1 164 j = j → mro s0 j = false := fun h => by
      unfold mro
      rw [Bool.and_eq_false_iff]
      exact Or.inl (decide_eq_false (by rw [← e64]; exact h))
    have nm2 : ¬ ¬ s.1 161 j ≤ 2 → mro s0 j = false := fun h => by
      unfold mro
      rw [Bool.and_eq_false_iff]
      exact Or.inr (decide_eq_false (by omega))
    refine s_X11_isSound_27 ?_
    (repeat' (with_reducible first | refine ⟨?_, ?_⟩ | intro _))
    all_goals first | omega | exact skipj (nm1 (by assumption)) (by omega) | exact skipj (nm2 (by assumption)) (by omega) | skip
    · obtain rfl : j = N := by omega
      exact fin s a w1 w2 w5
    · rename_i c0 c1 c2
      have hm1 : mro s0 j = true := by
        unfold mro
        rw [Bool.and_eq_true, decide_eq_true_eq, decide_eq_true_eq]
        omega
      have tt := ht.2 j h0 (by omega)
      refine c_X11_find (t := s.1 162 j) hN.2 (hl.keep w1 (by decide) (by decide)) (by rw [e62]; exact tt.2.1.1) (by rw [e62]; exact tt.2.1.2) fun x x0 x1 rx ex => ?_
      rw [f64, e62] at ex
      have exl : x = lfo s0 j := ex
      have b1 := hdb x j.toNat
      have b2 := w2 x x0 x1
      have b3 := dg_nn (lfo s0) (rto s0) (t3o s0) (mro s0) x j.toNat
      (repeat' (with_reducible first | refine ⟨?_, ?_⟩ | intro _))
      all_goals first | omega | skip
      · rename_i c3
        have t3 : t3o s0 j = true := decide_eq_true (by rw [← e61]; exact c3)
        refine ih _ (a + 1) (j + 1) (by omega) (by omega) (by omega) (w1.tr (by repeat' (first | exact md.rf | assumption | refine md.ui ?_ ?_ | refine md.uj ?_ ?_ | exact Or.inr (by decide) | exact Or.inl (by decide)))) (fun t b c => ?_) (by rw [stepc, hm1, if_pos rfl]; omega)
        rw [stepd t, hm1, if_pos rfl]
        unfold ctr
        rw [t3, if_pos rfl]
        by_cases q : t = x
        · rw [q, ui_same, if_pos exl.symm]; omega
        · rw [ui_ne q, if_neg (fun h => q (h.symm.trans exl.symm))]; have := w2 t b c; omega
      · rename_i c3
        have t3 : t3o s0 j = false := decide_eq_false (by rw [← e61]; exact c3)
        have w1x : md [] [165] s0 (ui s 165 x (s.1 165 x + 1)) := w1.tr (by repeat' (first | exact md.rf | assumption | refine md.ui ?_ ?_ | refine md.uj ?_ ?_ | exact Or.inr (by decide) | exact Or.inl (by decide)))
        have h63 : (ui s 165 x (s.1 165 x + 1)).1 163 j = s0.1 163 j := w1x.c 163 (by decide) (by decide) j
        refine c_X11_find (t := s.1 163 j) hN.2 (hl.keep w1x (by decide) (by decide)) (by rw [e63]; exact tt.2.2.1) (by rw [e63]; exact tt.2.2.2) fun y y0 y1 ry ey => ?_
        rw [show (ui s 165 x (s.1 165 x + 1)).1 164 = s0.1 164 from funext fun b => w1x.c 164 (by decide) (by decide) b, e63] at ey
        have eyr : y = rto s0 j := ey
        have b4 : (ui s 165 x (s.1 165 x + 1)).1 165 y ≤ 1000000 ∧ 0 ≤ (ui s 165 x (s.1 165 x + 1)).1 165 y := by
          by_cases q : y = x
          · rw [q, ui_same]; omega
          · rw [ui_ne q]
            have d1 := hdb y j.toNat
            have d2 := w2 y y0 y1
            have d3 := dg_nn (lfo s0) (rto s0) (t3o s0) (mro s0) y j.toNat
            omega
        (repeat' (with_reducible first | refine ⟨?_, ?_⟩ | intro _))
        all_goals first | omega | skip
        refine ih _ (a + 1) (j + 1) (by omega) (by omega) (by omega) (w1x.tr (by repeat' (first | exact md.rf | assumption | refine md.ui ?_ ?_ | refine md.uj ?_ ?_ | exact Or.inr (by decide) | exact Or.inl (by decide)))) (fun t b c => ?_) (by rw [stepc, hm1, if_pos rfl]; omega)
        rw [stepd t, hm1, if_pos rfl]
        rw [t3, ctr_f]
        by_cases r : t = y
        · rw [if_pos (show rto s0 j = t by rw [r]; exact eyr.symm)]
          rw [r, ui_same]
          by_cases q : y = x
          · rw [q, ui_same, if_pos exl.symm]; have := w2 x x0 x1; omega
          · rw [ui_ne q, if_neg (fun h => q (h.symm.trans exl.symm))]; have := w2 y y0 y1; omega
        · rw [ui_ne r, if_neg (show ¬ rto s0 j = t from fun h => r (h.symm.trans eyr.symm))]
          by_cases q : t = x
          · rw [q, ui_same, if_pos exl.symm]; have := w2 x x0 x1; omega
          · rw [ui_ne q, if_neg (show ¬ lfo s0 j = t from fun h => q (h.symm.trans exl.symm))]; have := w2 t b c; omega
theorem k_sound1 {s0 : ST} {N : Int} {Q : ST → Int → Prop} (ht : TV s0 N) (hT : s0.1 139 46 = N) (hl : LI s0 N) (hQ : ∀ s' v, md [] [165, 166] s0 s' → Q s' v) {a : Int} (ha : a = 0) : ∀ (m : Nat) (s : ST) (j : Int), N - j ≤ (m : Int) → 0 ≤ j → j ≤ N → md [] [165] s0 s → (∀ t, 0 ≤ t → t < j → s.1 165 t = 0) → K_X11_isSound_4 s a j Q := by
  intro m
  have hN := ht.1
  have ci : ∀ s : ST, md [] [165] s0 s → LI s N := fun s w1 => hl.keep w1 (by decide) (by decide)
  -- what came before the links were read is kept in s itself: the terms are those of s0
  induction m with
  | zero =>
    intro s j hm h0 h1 w1 w2
    have h46 := w1.f 139 46 (by decide) (by decide)
    refine s_X11_isSound_4 ?_
    (repeat' (with_reducible first | refine ⟨?_, ?_⟩ | intro _))
    all_goals first | omega | skip
    refine k_sound2 ht hT hl hQ N.toNat s a 0 (by omega) (by omega) hN.1 w1 (fun t b c => ?_) ha
    exact w2 t b (by omega)
  | succ m ih =>
    intro s j hm h0 h1 w1 w2
    have h46 := w1.f 139 46 (by decide) (by decide)
    refine s_X11_isSound_4 ?_
    (repeat' (with_reducible first | refine ⟨?_, ?_⟩ | intro _))
    all_goals first | omega | skip
    · refine k_sound2 ht hT hl hQ N.toNat s a 0 (by omega) (by omega) hN.1 w1 (fun t b c => ?_) ha
      exact w2 t b (by omega)
    · refine ih _ (j + 1) (by omega) (by omega) (by omega) (w1.tr (by repeat' (first | exact md.rf | assumption | refine md.ui ?_ ?_ | refine md.uj ?_ ?_ | exact Or.inr (by decide) | exact Or.inl (by decide)))) (fun t b c => ?_)
      by_cases e : t = j
      · rw [e, ui_same]
      · rw [ui_ne e]; exact w2 t b (by omega)
theorem c_X11_isSound {s : ST} {N : Int} {Q : ST → Int → Prop} (ht : TV s N) (hT : s.1 139 46 = N) (hl : LI s N) (hQ : ∀ s' v, md [] [165, 166] s s' → Q s' v) : C_X11_isSound s Q :=
  s_X11_isSound fun _ => k_sound1 ht hT hl hQ rfl N.toNat s 0 (by have := ht.1; omega) (by omega) ht.1.1 md.rf (fun t _ _ => by omega)
/-! makes, clash -/
/-- the terms and the asks are good -/
def TI (s : ST) : Prop := TV s (s.1 139 46) ∧ (bins s (s.1 139 46) : Int) ≤ 5990 ∧ (0 ≤ s.1 139 47 ∧ s.1 139 47 ≤ 1300) ∧ ∀ k, 0 ≤ k → k < s.1 139 47 → (0 ≤ s.1 168 k ∧ s.1 168 k < s.1 139 46) ∧ (0 ≤ s.1 169 k ∧ s.1 169 k < s.1 139 46)
theorem bins_eq {s s' : ST} {N : Int} (h : ∀ t, s'.1 161 t = s.1 161 t) : bins s' N = bins s N := cn_congr _ (fun i _ _ => by show decide (4 ≤ s'.1 161 i) = decide (4 ≤ s.1 161 i); rw [h])
theorem TI.keep {s s' : ST} (h : TI s) (hm : md [] [164, 165, 166] s s') : TI s' := by
  have e46 := hm.f 139 46 (by decide) (by decide)
  have e47 := hm.f 139 47 (by decide) (by decide)
  obtain ⟨h1, h2, h3, h4⟩ := h
  unfold TI
  rw [e46, e47, bins_eq (fun t => hm.c 161 (by decide) (by decide) t)]
  refine ⟨h1.keep hm (by decide) (by decide) (by decide) (by decide) (by decide) (by decide), h2, h3, fun k a b => ?_⟩
  rw [hm.c 168 (by decide) (by decide), hm.c 169 (by decide) (by decide)]
  exact h4 k a b
theorem k_makes2 {p : Int64} {Q : ST → Int → Prop} : ∀ (m : Nat) (s : ST) (j : Int), s.1 139 47 - j ≤ (m : Int) → 0 ≤ j → TI s → LI s (s.1 139 46) → (∀ s' v, md [] [164, 165, 166] s s' → LI s' (s.1 139 46) → Q s' v) → K_X11_makes_25 s p j Q := by
  intro m
  induction m with
  | zero =>
    intro s j hm h0 ht hl hQ
    refine s_X11_makes_25 ?_
    (repeat' (with_reducible first | refine ⟨?_, ?_⟩ | intro _))
    all_goals first | omega | skip
    refine c_X11_isSound ht.1 rfl hl fun s' v m' => ?_
    (repeat' (with_reducible first | refine ⟨?_, ?_⟩ | intro _))
    exact hQ _ _ (m'.mono (by decide) (by decide)) (hl.keep m' (by decide) (by decide))
  | succ m ih =>
    intro s j hm h0 ht hl hQ
    obtain ⟨h1, h2, h3, h4⟩ := id ht
    refine s_X11_makes_25 ?_
    (repeat' (with_reducible first | refine ⟨?_, ?_⟩ | intro _))
    all_goals first | omega | exact ih s (j + 1) (by omega) (by omega) ht hl hQ | skip
    · refine c_X11_isSound ht.1 rfl hl fun s' v m' => ?_
      (repeat' (with_reducible first | refine ⟨?_, ?_⟩ | intro _))
      exact hQ _ _ (m'.mono (by decide) (by decide)) (hl.keep m' (by decide) (by decide))
    · have hk := h4 j h0 (by omega)
      refine c_X11_unite h1 hl h2 hk.1 hk.2 fun s4 v4 m4 l4 => ?_
      have m4' : md [] [164, 165, 166] s s4 := m4.mono (by decide) (by decide)
      have e46 := m4.f 139 46 (by decide) (by decide)
      have e47 := m4.f 139 47 (by decide) (by decide)
      (repeat' (with_reducible first | refine ⟨?_, ?_⟩ | intro _))
      all_goals first | omega | exact hQ _ _ m4' l4 | skip
      exact ih s4 (j + 1) (by omega) (by omega) (ht.keep m4') (by rw [e46]; exact l4) (fun s' v m' l' => hQ s' v (m4'.tr m') (by rw [← e46]; exact l'))
theorem k_makes1 {p : Int64} {Q : ST → Int → Prop} : ∀ (m : Nat) (s : ST) (j : Int), s.1 139 46 - j ≤ (m : Int) → 0 ≤ j → TI s → (∀ t, 0 ≤ t → t < j → s.1 164 t = t) → (∀ s' v, md [] [164, 165, 166] s s' → LI s' (s.1 139 46) → Q s' v) → K_X11_makes_2 s p j Q := by
  have fin : ∀ (s : ST) (j : Int), s.1 139 46 ≤ j → TI s → (∀ t, 0 ≤ t → t < j → s.1 164 t = t) → (∀ s' v, md [] [164, 165, 166] s s' → LI s' (s.1 139 46) → Q s' v) → K_X11_makes_25 s p 0 Q := by
    intro s j hj ht hi hQ
    refine k_makes2 (s.1 139 47).toNat s 0 (by omega) (by omega) ht ⟨fun t a b => ?_, fun t a b => ⟨0, hi t a (by omega)⟩⟩ hQ
    rw [hi t a (by omega)]; exact ⟨a, b⟩
  intro m
  induction m with
  | zero =>
    intro s j hm h0 ht hi hQ
    refine s_X11_makes_2 ?_
    (repeat' (with_reducible first | refine ⟨?_, ?_⟩ | intro _))
    all_goals first | omega | exact fin s j (by omega) ht hi hQ
  | succ m ih =>
    intro s j hm h0 ht hi hQ
    have hN := ht.1.1
    refine s_X11_makes_2 ?_
    (repeat' (with_reducible first | refine ⟨?_, ?_⟩ | intro _))
    all_goals first | omega | exact fin s j (by omega) ht hi hQ | skip
    have m9 : md [] [164, 165, 166] s (ui s 164 j j) := (by repeat' (first | exact md.rf | assumption | refine md.ui ?_ ?_ | refine md.uj ?_ ?_ | exact Or.inr (by decide) | exact Or.inl (by decide)))
    have e46 := m9.f 139 46 (by decide) (by decide)
    refine ih _ (j + 1) (by omega) (by omega) (ht.keep m9) (fun t a b => ?_) (fun s' v m' l' => hQ s' v (m9.tr m') (by rw [← e46]; exact l'))
    by_cases e : t = j
    · rw [e, ui_same]
    · rw [ui_ne e]; exact hi t a (by omega)
theorem c_X11_makes {s : ST} {p : Int64} {Q : ST → Int → Prop} (ht : TI s) (hQ : ∀ s' v, md [] [164, 165, 166] s s' → LI s' (s.1 139 46) → Q s' v) : C_X11_makes s p Q :=
  s_X11_makes fun _ => k_makes1 (s.1 139 46).toNat s 0 (by have := ht.1.1; omega) (by omega) ht (fun t _ _ => by omega) hQ
theorem c_X11_clash {s : ST} {p : Int64} {Q : ST → Int → Prop} (ht : TI s) (hQ : ∀ s' v, md [] [164, 165, 166] s s' → LI s' (s.1 139 46) → Q s' v) : C_X11_clash s p Q := by
  refine s_X11_clash fun _ => c_X11_makes ht fun s' v m' l' => ?_
  (repeat' (with_reducible first | refine ⟨?_, ?_⟩ | intro _))
  all_goals exact hQ _ _ m' l'
