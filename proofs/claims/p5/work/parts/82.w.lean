/-! PROGRAMS AS FUNCTIONS: places in their order, ends, kids, defs, binders, asks. Nothing of the machine. -/
def ar (p : Int) : Int := (if p = 3 then 1 else (if p = 4 then 2 else (if p = 5 then 3 else (if p = 6 then 2 else (if p = 7 then 2 else (if p = 8 then 1 else (if p = 9 then 1 else (if p = 10 then 0 else (if p = 11 then 2 else (if p = 12 then 1 else (if p = 13 then 1 else (if p = 14 then 2 else (if p = 15 then 2 else (if p = 16 then 1 else 0))))))))))))))
theorem ar_F (s : ST) (p : Int) : F_X11_kidsOf s p = ar p := rfl
theorem ar_r (p : Int) : 0 ≤ ar p ∧ ar p ≤ 3 := by
  unfold ar
  repeat' (first | split | omega)
def T1 (so en : Int → Int) (kd : Int → Int → Int) (nP : Int) : Prop := ∀ p, 0 ≤ p → p < nP → (0 ≤ so p ∧ so p ≤ 16) ∧ (p ≤ en p ∧ en p < nP) ∧ (ar (so p) = 0 → en p = p) ∧ (1 ≤ ar (so p) → kd p 0 = p + 1 ∧ p + 1 < nP) ∧ (ar (so p) = 1 → en p = en (kd p 0)) ∧ (2 ≤ ar (so p) → kd p 1 = en (kd p 0) + 1 ∧ kd p 1 < nP) ∧ (ar (so p) = 2 → en p = en (kd p 1)) ∧ (ar (so p) = 3 → (kd p 2 = en (kd p 1) + 1 ∧ kd p 2 < nP) ∧ en p = en (kd p 2))
section PURE
variable {so en bi dO kA kL as : Int → Int} {kd : Int → Int → Int} {nP nD nK : Int} {dR kC : Int → Int}
theorem T1.kid (h : T1 so en kd nP) {p k : Int} (h0 : 0 ≤ p) (h1 : p < nP) (k0 : 0 ≤ k) (k1 : k < ar (so p)) : p < kd p k ∧ kd p k ≤ en (kd p k) ∧ en (kd p k) ≤ en p ∧ kd p k < nP := by
  have hp := h p h0 h1
  have hr := ar_r (so p)
  obtain ⟨e0, g0⟩ := hp.2.2.2.1 (by omega)
  have a0 := h (kd p 0) (by omega) (by omega)
  by_cases c1 : ar (so p) = 1
  · have := hp.2.2.2.2.1 c1
    rw [show k = 0 by omega]; omega
  · obtain ⟨e1, g1⟩ := hp.2.2.2.2.2.1 (by omega)
    have a1 := h (kd p 1) (by omega) (by omega)
    by_cases c2 : ar (so p) = 2
    · have := hp.2.2.2.2.2.2.1 c2
      by_cases c : k = 0
      · rw [c]; omega
      · rw [show k = 1 by omega]; omega
    · obtain ⟨⟨e2, g2⟩, e3⟩ := hp.2.2.2.2.2.2.2 (by omega)
      have a2 := h (kd p 2) (by omega) (by omega)
      by_cases c : k = 0
      · rw [c]; omega
      · by_cases d : k = 1
        · rw [d]; omega
        · rw [show k = 2 by omega]; omega
/-- a place behind p and within p's end is within one of its kids -/
theorem T1.part (h : T1 so en kd nP) {p q : Int} (h0 : 0 ≤ p) (h1 : p < nP) (hq : p < q) (hq2 : q ≤ en p) : ∃ k, 0 ≤ k ∧ k < ar (so p) ∧ kd p k ≤ q ∧ q ≤ en (kd p k) := by
  have hp := h p h0 h1
  have hr := ar_r (so p)
  by_cases c0 : ar (so p) = 0
  · have := hp.2.2.1 c0; omega
  · obtain ⟨e0, g0⟩ := hp.2.2.2.1 (by omega)
    by_cases c1 : ar (so p) = 1
    · have := hp.2.2.2.2.1 c1
      exact ⟨0, by omega, by omega, by omega, by omega⟩
    · obtain ⟨e1, g1⟩ := hp.2.2.2.2.2.1 (by omega)
      by_cases d0 : q ≤ en (kd p 0)
      · exact ⟨0, by omega, by omega, by omega, d0⟩
      · by_cases c2 : ar (so p) = 2
        · have := hp.2.2.2.2.2.2.1 c2
          exact ⟨1, by omega, by omega, by omega, by omega⟩
        · obtain ⟨⟨e2, g2⟩, e3⟩ := hp.2.2.2.2.2.2.2 (by omega)
          by_cases d1 : q ≤ en (kd p 1)
          · exact ⟨1, by omega, by omega, by omega, d1⟩
          · exact ⟨2, by omega, by omega, by omega, by omega⟩
/-- no end stands over another -/
theorem T1.lam (h : T1 so en kd nP) : ∀ (n : Nat) (q p : Int), en q - q ≤ (n : Int) → 0 ≤ q → q < nP → q ≤ p → p ≤ en q → en p ≤ en q := by
  intro n
  induction n with
  | zero =>
    intro q p hn h0 h1 h2 h3
    rw [show p = q by omega]; omega
  | succ n ih =>
    intro q p hn h0 h1 h2 h3
    by_cases e : p = q
    · rw [e]; omega
    · obtain ⟨k, k0, k1, k2, k3⟩ := h.part h0 h1 (by omega) h3
      have hk := h.kid h0 h1 k0 k1
      have := ih (kd q k) p (by omega) (by omega) hk.2.2.2 k2 k3
      omega
theorem T1.le (h : T1 so en kd nP) {q p : Int} (h0 : 0 ≤ q) (h1 : q < nP) (h2 : q ≤ p) (h3 : p ≤ en q) : en p ≤ en q := h.lam (en q - q).toNat q p (by omega) h0 h1 h2 h3
def T2 (dR en : Int → Int) (nD nP : Int) : Prop := (0 ≤ nD ∧ nD ≤ 8) ∧ (0 ≤ nP ∧ nP ≤ 40) ∧ (nD = 0 → nP = 0) ∧ (0 < nD → dR 0 = 0 ∧ en (dR (nD - 1)) = nP - 1) ∧ (∀ d, 0 ≤ d → d < nD → 0 ≤ dR d ∧ dR d < nP) ∧ (∀ d, 0 ≤ d → d + 1 < nD → dR (d + 1) = en (dR d) + 1)
def T3 (dO dR en : Int → Int) (nD nP : Int) : Prop := ∀ p, 0 ≤ p → p < nP → (0 ≤ dO p ∧ dO p < nD) ∧ (dR (dO p) ≤ p ∧ p ≤ en (dR (dO p)))
theorem T2.mono (h : T2 dR en nD nP) (t : T1 so en kd nP) : ∀ (n : Nat) (d : Int), 0 ≤ d → d + n + 1 < nD → en (dR d) < dR (d + n + 1) := by
  intro n
  induction n with
  | zero =>
    intro d h0 h1
    have := h.2.2.2.2.2 d h0 (by omega)
    rw [show d + ((0 : Nat) : Int) + 1 = d + 1 by omega]; omega
  | succ n ih =>
    intro d h0 h1
    have h2 := ih d h0 (by omega)
    have h3 := h.2.2.2.2.2 (d + n + 1) (by omega) (by omega)
    have h4 := h.2.2.2.2.1 (d + n + 1) (by omega) (by omega)
    have h5 := (t _ h4.1 h4.2).2.1
    rw [show d + ((n + 1 : Nat) : Int) + 1 = d + n + 1 + 1 by omega]; omega
theorem T2.lt (h : T2 dR en nD nP) (t : T1 so en kd nP) {d e : Int} (h0 : 0 ≤ d) (h1 : d < e) (h2 : e < nD) : en (dR d) < dR e := by
  have := h.mono t (e - d - 1).toNat d h0 (by omega)
  rw [show d + (((e - d - 1).toNat : Nat) : Int) + 1 = e by omega] at this
  exact this
/-- an end before a def's root stays before it -/
theorem def_sep (t : T1 so en kd nP) (h : T2 dR en nD nP) (h3 : T3 dO dR en nD nP) {q d : Int} (q0 : 0 ≤ q) (d0 : 0 ≤ d) (d1 : d < nD) (hq : q < dR d) : en q < dR d := by
  have hd := h.2.2.2.2.1 d d0 d1
  obtain ⟨⟨e0, e1⟩, e2, e3⟩ := h3 q q0 (by omega)
  have he := h.2.2.2.2.1 _ e0 e1
  have hl := t.le he.1 he.2 e2 e3
  by_cases c : dO q < d
  · have := h.lt t e0 c d1; omega
  · by_cases c2 : dO q = d
    · rw [c2] at e2; omega
    · have := h.lt t d0 (show d < dO q by omega) e1
      have := (t _ hd.1 hd.2).2.1
      omega
def T4 (so en bi dO : Int → Int) (kd : Int → Int → Int) (nP : Int) : Prop := ∀ p, 0 ≤ p → p < nP → (so p = 2 → (bi p < 100 → (0 ≤ bi p ∧ bi p < p ∧ p ≤ en (bi p)) ∧ (so (bi p) = 3 ∨ so (bi p) = 4 ∧ kd (bi p) 1 ≤ p)) ∧ (100 ≤ bi p → bi p - 100 < dO p)) ∧ (so p ≠ 2 → bi p = -1)
/-- how high the pile is when m words have been read from the end e down -/
def hg (kC : Int → Int) (e : Int) : Nat → Int
  | 0 => 0
  | m + 1 => hg kC e m + (if kC (e - 1 - m) < 3 then 1 else if kC (e - 1 - m) = 3 then 0 else -1)
def KW (kC : Int → Int) (a l : Int) : Prop := (∀ m : Nat, (m : Int) < l → (kC (a + l - 1 - m) = 3 → 1 ≤ hg kC (a + l) m) ∧ (3 < kC (a + l - 1 - m) → 2 ≤ hg kC (a + l) m)) ∧ 1 ≤ hg kC (a + l) l.toNat
def T5 (so kA kL kC : Int → Int) (nP nK : Int) : Prop := (0 ≤ nK ∧ nK ≤ 20) ∧ (∀ k, 0 ≤ k → k < nK → 0 ≤ kC k ∧ kC k ≤ 5) ∧ ∀ p, 0 ≤ p → p < nP → so p = 16 → (0 ≤ kA p ∧ 1 ≤ kL p ∧ kA p + kL p ≤ nK) ∧ KW kC (kA p) (kL p)
/-- the root that a NAME has made anew; none for a NAME of a fun -/
def rt (so bi dR : Int → Int) (kd : Int → Int → Int) (p : Int) : Int := if bi p < 100 then (if so (bi p) = 4 then kd (bi p) 0 else -1) else dR (bi p - 100)
def exw (so bi dR as : Int → Int) (kd : Int → Int → Int) (p : Int) : Int := if so p = 2 then (if rt so bi dR kd p < 0 then 0 else as (rt so bi dR kd p)) else 0
def ksum (so as : Int → Int) (kd : Int → Int → Int) (p : Int) : Int := (if 1 ≤ ar (so p) then as (kd p 0) else 0) + (if 2 ≤ ar (so p) then as (kd p 1) else 0) + (if 3 ≤ ar (so p) then as (kd p 2) else 0)
def T6 (so bi dR as : Int → Int) (kd : Int → Int → Int) (nP : Int) : Prop := ∀ p, 0 ≤ p → p < nP → (1 ≤ as p ∧ as p ≤ 1000000) ∧ (as p < 1000000 → as p = 1 + ksum so as kd p + exw so bi dR as kd p) ∧ (as p = 1000000 → 1000000 ≤ 1 + ksum so as kd p + exw so bi dR as kd p)
/-- sums of f over n places from lo on -/
def sm (f : Int → Int) (lo : Int) : Nat → Int
  | 0 => 0
  | n + 1 => sm f lo n + f (lo + n)
theorem sm_app (f : Int → Int) (lo : Int) (n : Nat) : ∀ m : Nat, sm f lo (n + m) = sm f lo n + sm f (lo + n) m := by
  intro m
  induction m with
  | zero => show sm f lo n = sm f lo n + 0; omega
  | succ m ih =>
    show sm f lo (n + m) + f (lo + ((n + m : Nat) : Int)) = sm f lo n + (sm f (lo + n) m + f (lo + n + m))
    rw [ih, show lo + ((n + m : Nat) : Int) = lo + n + m by omega]; omega
theorem sm_head (f : Int → Int) (lo : Int) (n : Nat) : sm f lo (n + 1) = f lo + sm f (lo + 1) n := by
  have := sm_app f lo 1 n
  rw [Nat.add_comm 1 n] at this
  rw [this]
  show 0 + f (lo + ((0 : Nat) : Int)) + sm f (lo + ((1 : Nat) : Int)) n = _
  rw [show lo + ((0 : Nat) : Int) = lo by omega, show lo + ((1 : Nat) : Int) = lo + 1 by omega]; omega
theorem sm_congr {f g : Int → Int} {lo : Int} : ∀ n : Nat, (∀ i, lo ≤ i → i < lo + n → f i = g i) → sm f lo n = sm g lo n := by
  intro n
  induction n with
  | zero => intro _; rfl
  | succ n ih =>
    intro h
    show sm f lo n + f (lo + n) = sm g lo n + g (lo + n)
    rw [ih (fun i a b => h i a (by omega)), h _ (by omega) (by omega)]
theorem sm_ge {f : Int → Int} {lo : Int} : ∀ n : Nat, (∀ i, lo ≤ i → i < lo + n → 1 ≤ f i) → (n : Int) ≤ sm f lo n := by
  intro n
  induction n with
  | zero => intro _; exact Int.le_refl _
  | succ n ih =>
    intro h
    have h1 := ih (fun i a b => h i a (by omega))
    have h2 := h (lo + n) (by omega) (by omega)
    show ((n + 1 : Nat) : Int) ≤ sm f lo n + f (lo + n)
    omega
theorem sm_mem {f : Int → Int} {lo : Int} : ∀ (n : Nat) (i : Int), (∀ i, lo ≤ i → i < lo + n → 0 ≤ f i) → lo ≤ i → i < lo + n → f i ≤ sm f lo n := by
  intro n
  induction n with
  | zero => intro i _ _ _; omega
  | succ n ih =>
    intro i h a b
    have h2 := h (lo + n) (by omega) (by omega)
    have h0 : 0 ≤ sm f lo n := by
      have : ∀ m : Nat, m ≤ n → 0 ≤ sm f lo m := by
        intro m
        induction m with
        | zero => intro _; exact Int.le_refl _
        | succ m im =>
          intro hm
          have a1 := im (by omega)
          have a2 := h (lo + m) (by omega) (by omega)
          show 0 ≤ sm f lo m + f (lo + m); omega
      exact this n (Nat.le_refl _)
    show f i ≤ sm f lo n + f (lo + n)
    by_cases e : i = lo + n
    · rw [e]; omega
    · have := ih i (fun i a b => h i a (by omega)) a (by omega)
      omega
theorem as_le (t : T1 so en kd nP) (h6 : T6 so bi dR as kd nP) (hx : ∀ p, 0 ≤ p → p < nP → 0 ≤ exw so bi dR as kd p) : ∀ (n : Nat) (p q : Int), en p - p ≤ (n : Int) → 0 ≤ p → p < nP → as p ≤ 400 → p ≤ q → q ≤ en p → as q ≤ 400 := by
  intro n
  induction n with
  | zero =>
    intro p q hn h0 h1 ha h2 h3
    rw [show q = p by omega]; exact ha
  | succ n ih =>
    intro p q hn h0 h1 ha h2 h3
    by_cases e : q = p
    · rw [e]; exact ha
    · obtain ⟨k, k0, k1, k2, k3⟩ := t.part h0 h1 (by omega) h3
      have hk := t.kid h0 h1 k0 k1
      have hs := (h6 p h0 h1).2.1 (by omega)
      have hxp := hx p h0 h1
      refine ih (kd p k) q (by omega) (by omega) hk.2.2.2 ?_ k2 k3
      unfold ksum at hs
      have kk : ∀ j, 0 ≤ j → j < ar (so p) → 1 ≤ as (kd p j) := fun j a b => by
        have := t.kid h0 h1 a b
        exact (h6 _ (by omega) this.2.2.2).1.1
      have hr := ar_r (so p)
      by_cases c1 : ar (so p) = 1
      · rw [if_pos (by omega), if_neg (by omega), if_neg (by omega)] at hs
        rw [show k = 0 by omega]; omega
      · have g0 := kk 0 (by omega) (by omega)
        have g1 := kk 1 (by omega) (by omega)
        by_cases c2 : ar (so p) = 2
        · rw [if_pos (by omega), if_pos (by omega), if_neg (by omega)] at hs
          by_cases c : k = 0
          · rw [c]; omega
          · rw [show k = 1 by omega]; omega
        · have g2 := kk 2 (by omega) (by omega)
          rw [if_pos (by omega), if_pos (by omega), if_pos (by omega)] at hs
          by_cases c : k = 0
          · rw [c]; omega
          · by_cases d : k = 1
            · rw [d]; omega
            · rw [show k = 2 by omega]; omega
/-- an e's asks: one for each place in it, and those made anew -/
theorem as_sum (t : T1 so en kd nP) (h6 : T6 so bi dR as kd nP) (hx : ∀ p, 0 ≤ p → p < nP → 0 ≤ exw so bi dR as kd p) : ∀ (n : Nat) (p : Int), en p - p ≤ (n : Int) → 0 ≤ p → p < nP → as p ≤ 400 → as p = sm (fun q => 1 + exw so bi dR as kd q) p (en p - p + 1).toNat := by
  intro n
  induction n with
  | zero =>
    intro p hn h0 h1 ha
    have hp := t p h0 h1
    have hs := (h6 p h0 h1).2.1 (by omega)
    have c0 : ar (so p) = 0 := by
      have hr := ar_r (so p)
      by_cases c : ar (so p) = 0
      · exact c
      · have := t.kid h0 h1 (Int.le_refl 0) (show 0 < ar (so p) by omega); omega
    rw [show en p = p by omega, show (p - p + 1).toNat = 1 by omega]
    show as p = 0 + (1 + exw so bi dR as kd (p + ((0 : Nat) : Int)))
    rw [show p + ((0 : Nat) : Int) = p by omega]
    unfold ksum at hs
    rw [if_neg (by omega), if_neg (by omega), if_neg (by omega)] at hs
    omega
  | succ n ih =>
    intro p hn h0 h1 ha
    have hp := t p h0 h1
    have hs := (h6 p h0 h1).2.1 (by omega)
    have hr := ar_r (so p)
    have hle : ∀ j, 0 ≤ j → j < ar (so p) → as (kd p j) = sm (fun q => 1 + exw so bi dR as kd q) (kd p j) (en (kd p j) - kd p j + 1).toNat := fun j a b => by
      have hk := t.kid h0 h1 a b
      exact ih (kd p j) (by omega) (by omega) hk.2.2.2 (as_le t h6 hx (en p - p).toNat p (kd p j) (by omega) h0 h1 ha (by omega) (by omega))
    have cut : ∀ x y z : Int, x ≤ y → y ≤ z → sm (fun q => 1 + exw so bi dR as kd q) x (z - x).toNat = sm (fun q => 1 + exw so bi dR as kd q) x (y - x).toNat + sm (fun q => 1 + exw so bi dR as kd q) y (z - y).toNat := by
      intro x y z a b
      have := sm_app (fun q => 1 + exw so bi dR as kd q) x (y - x).toNat (z - y).toNat
      rw [show (y - x).toNat + (z - y).toNat = (z - x).toNat by omega, show x + (((y - x).toNat : Nat) : Int) = y by omega] at this
      exact this
    have one : sm (fun q => 1 + exw so bi dR as kd q) p (p + 1 - p).toNat = 1 + exw so bi dR as kd p := by
      rw [show (p + 1 - p).toNat = 1 by omega]
      show 0 + (1 + exw so bi dR as kd (p + ((0 : Nat) : Int))) = _
      rw [show p + ((0 : Nat) : Int) = p by omega]; omega
    have pf : ∀ x : Int, x - p + 1 = x + 1 - p := fun x => by omega
    unfold ksum at hs
    by_cases c0 : ar (so p) = 0
    · have e := hp.2.2.1 c0
      rw [if_neg (by omega), if_neg (by omega), if_neg (by omega)] at hs
      rw [e, pf, one]; omega
    · obtain ⟨e0, g0⟩ := hp.2.2.2.1 (by omega)
      have a0 := hle 0 (by omega) (by omega)
      have b0 := t.kid h0 h1 (Int.le_refl 0) (show 0 < ar (so p) by omega)
      rw [show en (kd p 0) - kd p 0 + 1 = en (kd p 0) + 1 - kd p 0 by omega] at a0
      by_cases c1 : ar (so p) = 1
      · have e := hp.2.2.2.2.1 c1
        rw [if_pos (by omega), if_neg (by omega), if_neg (by omega)] at hs
        rw [pf, cut p (p + 1) (en p + 1) (by omega) (by omega), one, e, ← e0, ← a0]; omega
      · obtain ⟨e1, g1⟩ := hp.2.2.2.2.2.1 (by omega)
        have a1 := hle 1 (by omega) (by omega)
        have b1 := t.kid h0 h1 (show (0 : Int) ≤ 1 by omega) (show 1 < ar (so p) by omega)
        rw [show en (kd p 1) - kd p 1 + 1 = en (kd p 1) + 1 - kd p 1 by omega] at a1
        by_cases c2 : ar (so p) = 2
        · have e := hp.2.2.2.2.2.2.1 c2
          rw [if_pos (by omega), if_pos (by omega), if_neg (by omega)] at hs
          rw [pf, cut p (p + 1) (en p + 1) (by omega) (by omega), one, cut (p + 1) (kd p 1) (en p + 1) (by omega) (by omega), e, ← a1, show kd p 1 - (p + 1) = en (kd p 0) + 1 - kd p 0 by omega, ← e0, ← a0]; omega
        · obtain ⟨⟨e2, g2⟩, e⟩ := hp.2.2.2.2.2.2.2 (by omega)
          have a2 := hle 2 (by omega) (by omega)
          have b2 := t.kid h0 h1 (show (0 : Int) ≤ 2 by omega) (show 2 < ar (so p) by omega)
          rw [show en (kd p 2) - kd p 2 + 1 = en (kd p 2) + 1 - kd p 2 by omega] at a2
          rw [if_pos (by omega), if_pos (by omega), if_pos (by omega)] at hs
          rw [pf, cut p (p + 1) (en p + 1) (by omega) (by omega), one, cut (p + 1) (kd p 1) (en p + 1) (by omega) (by omega), cut (kd p 1) (kd p 2) (en p + 1) (by omega) (by omega), e, ← a2, show kd p 2 - kd p 1 = en (kd p 1) + 1 - kd p 1 by omega, ← a1, show kd p 1 - (p + 1) = en (kd p 0) + 1 - kd p 0 by omega, ← e0, ← a0]; omega
end PURE
