/-! A PROGRAM WRITTEN ANEW IS GOOD: from what the walk leaves -/
theorem KW.congr {kC kC' : Int → Int} {a l : Int} (h : KW kC a l) (hl : 0 ≤ l) (he : ∀ k, a ≤ k → k < a + l → kC' k = kC k) : KW kC' a l := by
  have hh : ∀ m : Nat, (m : Int) ≤ l → hg kC' (a + l) m = hg kC (a + l) m := by
    intro m
    induction m with
    | zero => intro _; rfl
    | succ m ih =>
      intro hm
      show hg kC' (a + l) m + (if kC' (a + l - 1 - m) < 3 then 1 else if kC' (a + l - 1 - m) = 3 then 0 else -1) = hg kC (a + l) m + (if kC (a + l - 1 - m) < 3 then 1 else if kC (a + l - 1 - m) = 3 then 0 else -1)
      rw [ih (by omega), he _ (by omega) (by omega)]
  refine ⟨fun m hm => ?_, ?_⟩
  · rw [he _ (by omega) (by omega), hh m (by omega)]
    exact h.1 m hm
  · rw [hh l.toNat (by omega)]
    exact h.2
def Od (s0 : ST) (b p c d : Int) : Int := sm (fun d => nz s0 b p c (s0.1 145 (8 * b + d))) 0 d.toNat
section NB
variable {s0 : ST} {b p c w its : Int}
theorem Od_succ {d : Int} (d0 : 0 ≤ d) : Od s0 b p c (d + 1) = Od s0 b p c d + nz s0 b p c (s0.1 145 (8 * b + d)) := by
  unfold Od
  rw [show (d + 1).toNat = d.toNat + 1 by omega]
  show sm (fun d => nz s0 b p c (s0.1 145 (8 * b + d))) 0 d.toNat + nz s0 b p c (s0.1 145 (8 * b + (0 + ((d.toNat : Nat) : Int)))) = _
  rw [show 0 + ((d.toNat : Nat) : Int) = d by omega]
theorem Od_zero : Od s0 b p c 0 = 0 := rfl
theorem Od_le (cx : CX s0 b p c w its) : ∀ (m : Nat) (d : Int), d = (m : Int) → d < s0.1 143 b → 0 ≤ Od s0 b p c d ∧ Od s0 b p c d ≤ s0.1 145 (8 * b + d) := by
  have W := cx.2.1
  have t2 := W.2.1
  intro m
  induction m with
  | zero =>
    intro d hd h1
    have := W.dR (d := d) (by omega) h1
    rw [show d = 0 by omega] at this ⊢
    exact ⟨Int.le_refl _, this.1⟩
  | succ m ih =>
    intro d hd h1
    have h := ih (d - 1) (by omega) (by omega)
    have hr := W.dR (d := d - 1) (by omega) (by omega)
    have hz := cx.nz_ge hr.1 hr.2
    have hs : s0.1 145 (8 * b + (d - 1 + 1)) = s0.1 150 (40 * b + s0.1 145 (8 * b + (d - 1))) + 1 := t2.2.2.2.2.2 (d - 1) (by omega) (by omega)
    have he := Od_succ (s0 := s0) (b := b) (p := p) (c := c) (d := d - 1) (by omega)
    rw [show d - 1 + 1 = d by omega] at he hs
    omega
theorem Od_end (cx : CX s0 b p c w its) {d : Int} (d0 : 0 ≤ d) (d1 : d < s0.1 143 b) : Od s0 b p c d + nz s0 b p c (s0.1 145 (8 * b + d)) ≤ s0.1 142 b := by
  have h := Od_le cx d.toNat d (by omega) d1
  have hr := cx.2.1.dR d0 d1
  have hz := cx.nz_ge hr.1 hr.2
  have he := cx.2.1.en hr.1 hr.2
  omega
theorem Od_mono (cx : CX s0 b p c w its) : ∀ (m : Nat) (d : Int), 0 ≤ d → d + m ≤ s0.1 143 b → Od s0 b p c d + m ≤ Od s0 b p c (d + m) := by
  intro m
  induction m with
  | zero => intro d _ _; rw [show d + ((0 : Nat) : Int) = d by omega]; omega
  | succ m ih =>
    intro d d0 d1
    have h := ih d d0 (by omega)
    have he := Od_succ (s0 := s0) (b := b) (p := p) (c := c) (d := d + m) (by omega)
    have hr := cx.2.1.dR (d := d + m) (by omega) (by omega)
    have hz := cx.nz_ge hr.1 hr.2
    rw [show d + ((m + 1 : Nat) : Int) = d + m + 1 by omega]
    omega
theorem Od_find (cx : CX s0 b p c w its) : ∀ (m : Nat) (x : Int), (m : Int) ≤ s0.1 143 b → 0 ≤ x → x < Od s0 b p c m → ∃ d : Int, (0 ≤ d ∧ d < (m : Int)) ∧ Od s0 b p c d ≤ x ∧ x < Od s0 b p c d + nz s0 b p c (s0.1 145 (8 * b + d)) := by
  intro m
  induction m with
  | zero => intro x _ h0 h1; have : Od s0 b p c ((0 : Nat) : Int) = 0 := rfl; omega
  | succ m ih =>
    intro x hm h0 h1
    have he := Od_succ (s0 := s0) (b := b) (p := p) (c := c) (d := (m : Int)) (by omega)
    rw [show ((m + 1 : Nat) : Int) = (m : Int) + 1 by omega] at h1
    by_cases g : x < Od s0 b p c m
    · obtain ⟨d, ⟨d0, d1⟩, d2⟩ := ih x (by omega) h0 g
      exact ⟨d, ⟨d0, by omega⟩, d2⟩
    · exact ⟨m, ⟨by omega, by omega⟩, by omega, by omega⟩
/-- what the walk over all defs leaves -/
def NEW (s0 : ST) (b p c its : Int) (s : ST) : Prop := s.1 142 2 = Od s0 b p c (s0.1 143 b) ∧ s.1 143 2 = s0.1 143 b ∧ s.1 144 2 = s0.1 144 b ∧ (∀ d, 0 ≤ d → d < s0.1 143 b → s.1 145 (16 + d) = Od s0 b p c d) ∧ (∀ d, 0 ≤ d → d < s0.1 143 b → PO s0 b p c its s (s0.1 145 (8 * b + d)) (Od s0 b p c d)) ∧ (∀ q k, 0 ≤ q → q < s0.1 142 b → 0 ≤ s.1 182 q → 0 ≤ k → k < ar (ns s0 b p c q) → s.1 152 (3 * (80 + s.1 182 q) + k) = s.1 182 (nk s0 b p c q k)) ∧ (∀ k, 0 ≤ k → k < 20 → s.1 156 (40 + k) = s0.1 156 (20 * b + k))
theorem new_good {s : ST} (cx : CX s0 b p c w its) (h : NEW s0 b p c its s) : ∃ E, WFE s 2 E ∧ T5 (bso s 2) (bkA s 2) (bkL s 2) (bkC s 2) (s.1 142 2) (s.1 144 2) := by
  obtain ⟨h1, h2, h3, h4, h5, h6, h7⟩ := h
  have W := cx.2.1
  have nn := W.nn
  obtain ⟨b01, _, hp, hcg, hits⟩ := id cx
  have pe := cx.2.1.en hp.1 hp.2
  -- where a place lies
  have F1 : ∀ r, 0 ≤ r → r < s0.1 142 b → 0 ≤ s.1 182 r → Od s0 b p c (s0.1 149 (40 * b + r)) ≤ s.1 182 r ∧ s.1 182 r + nz s0 b p c r ≤ Od s0 b p c (s0.1 149 (40 * b + r)) + nz s0 b p c (s0.1 145 (8 * b + s0.1 149 (40 * b + r))) := by
    intro r r0 r1 hr
    obtain ⟨⟨d0, d1⟩, d2, d3⟩ := W.dO r0 r1
    have := (h5 _ d0 d1).2.1 r d2 d3
    omega
  have tot : ∀ d, 0 ≤ d → d < s0.1 143 b → Od s0 b p c d + nz s0 b p c (s0.1 145 (8 * b + d)) ≤ s.1 142 2 := by
    intro d d0 d1
    have he := Od_succ (s0 := s0) (b := b) (p := p) (c := c) d0
    have hm := Od_mono cx (s0.1 143 b - (d + 1)).toNat (d + 1) (by omega) (by omega)
    rw [show d + 1 + (((s0.1 143 b - (d + 1)).toNat : Nat) : Int) = s0.1 143 b by omega] at hm
    omega
  have F2 : ∀ r1 r2, 0 ≤ r1 → r1 < s0.1 142 b → 0 ≤ r2 → r2 < s0.1 142 b → 0 ≤ s.1 182 r1 → s.1 182 r1 = s.1 182 r2 → r1 = r2 := by
    intro r1 r2 a0 a1 b0 b1 hr he
    have f1 := F1 r1 a0 a1 hr
    have f2 := F1 r2 b0 b1 (by omega)
    obtain ⟨⟨d0, d1⟩, d2, d3⟩ := W.dO a0 a1
    obtain ⟨⟨e0, e1⟩, e2, e3⟩ := W.dO b0 b1
    have z1 := (cx.nz_ge a0 a1).1
    have z2 := (cx.nz_ge b0 b1).1
    have sep : ∀ d e, 0 ≤ d → d < e → e < s0.1 143 b → Od s0 b p c d + nz s0 b p c (s0.1 145 (8 * b + d)) ≤ Od s0 b p c e := by
      intro d e x0 x1 x2
      have he := Od_succ (s0 := s0) (b := b) (p := p) (c := c) x0
      have hm := Od_mono cx (e - (d + 1)).toNat (d + 1) (by omega) (by omega)
      rw [show d + 1 + (((e - (d + 1)).toNat : Nat) : Int) = e by omega] at hm
      omega
    by_cases g : s0.1 149 (40 * b + r1) = s0.1 149 (40 * b + r2)
    · rw [← g] at e2 e3
      exact (h5 _ d0 d1).2.2.2.2.2.2 r1 r2 d2 d3 e2 e3 hr he
    · by_cases l : s0.1 149 (40 * b + r1) < s0.1 149 (40 * b + r2)
      · have := sep _ _ d0 l e1; omega
      · have := sep _ _ e0 (show s0.1 149 (40 * b + r2) < s0.1 149 (40 * b + r1) by omega) d1; omega
  have F3 : ∀ x, ∃ r, 0 ≤ x → x < s.1 142 2 → (0 ≤ r ∧ r < s0.1 142 b) ∧ s.1 182 r = x := by
    intro x
    by_cases g : 0 ≤ x ∧ x < s.1 142 2
    · obtain ⟨d, ⟨d0, d1⟩, d2, d3⟩ := Od_find cx (s0.1 143 b).toNat x (by omega) g.1 (by rw [show (((s0.1 143 b).toNat : Nat) : Int) = s0.1 143 b by omega]; omega)
      obtain ⟨r, ⟨r0, r1⟩, e⟩ := (h5 d d0 (by omega)).2.2.2.1 x d2 d3
      have hr := W.dR d0 (show d < s0.1 143 b by omega)
      have he := W.en hr.1 hr.2
      exact ⟨r, fun _ _ => ⟨⟨by omega, by omega⟩, e⟩⟩
    · exact ⟨0, fun a c => absurd ⟨a, c⟩ g⟩
  have nest : ∀ r1 r2, 0 ≤ r1 → r1 < s0.1 142 b → r1 < r2 → r2 ≤ s0.1 150 (40 * b + r1) → 0 ≤ s.1 182 r2 → 0 ≤ s.1 182 r1 ∧ s.1 182 r1 < s.1 182 r2 ∧ s.1 182 r2 < s.1 182 r1 + nz s0 b p c r1 := by
    intro r1 r2 a0 a1 h12 h23 hr
    obtain ⟨⟨d0, d1⟩, d2, d3⟩ := W.dO a0 a1
    exact (h5 _ d0 d1).2.2.2.2.1 r1 r2 d2 h12 h23 d3 hr
  have cont : ∀ r, 0 ≤ r → r < s0.1 142 b → 0 ≤ s.1 182 r → s.1 146 (80 + s.1 182 r) = ns s0 b p c r ∧ s.1 149 (80 + s.1 182 r) = s0.1 149 (40 * b + r) ∧ s.1 154 (80 + s.1 182 r) = s0.1 154 (40 * b + r) ∧ s.1 155 (80 + s.1 182 r) = s0.1 155 (40 * b + r) ∧ s.1 153 (80 + s.1 182 r) = nv (s.1 182) (nb s0 b p c its r) := by
    intro r r0 r1 hr
    obtain ⟨⟨d0, d1⟩, d2, d3⟩ := W.dO r0 r1
    exact (h5 _ d0 d1).2.2.2.2.2.1 r d2 d3 hr
  have kidf : ∀ r k, 0 ≤ r → r < s0.1 142 b → 0 ≤ s.1 182 r → 0 ≤ k → k < ar (ns s0 b p c r) → s.1 182 (nk s0 b p c r k) = s.1 182 r + 1 + n2 s0 b p c r k.toNat := by
    intro r k r0 r1 hr k0 k1
    obtain ⟨⟨d0, d1⟩, d2, d3⟩ := W.dO r0 r1
    exact (h5 _ d0 d1).2.2.1 r k d2 d3 hr k0 k1
  obtain ⟨g, hg⟩ := Classical.axiomOfChoice F3
  have e80 : ∀ a x, s.1 a (40 * 2 + x) = s.1 a (80 + x) := fun a x => by rw [show (40 : Int) * 2 + x = 80 + x by omega]
  have e16 : ∀ d, bdR s 2 d = s.1 145 (16 + d) := fun d => by unfold bdR; rw [show (8 : Int) * 2 + d = 16 + d by omega]
  have eso : ∀ x, bso s 2 x = s.1 146 (80 + x) := fun x => e80 146 x
  have gu : ∀ r, 0 ≤ r → r < s0.1 142 b → 0 ≤ s.1 182 r → g (s.1 182 r) = r := by
    intro r r0 r1 hr
    have f1 := F1 r r0 r1 hr
    obtain ⟨⟨d0, d1⟩, _, _⟩ := W.dO r0 r1
    have ht := tot _ d0 d1
    have hz := (cx.nz_ge r0 r1).1
    obtain ⟨⟨a0, a1⟩, e⟩ := hg (s.1 182 r) hr (by omega)
    exact F2 _ _ a0 a1 r0 r1 (by omega) e
  have sor : ∀ r, 0 ≤ r → r < s0.1 142 b → 0 ≤ ns s0 b p c r ∧ ns s0 b p c r ≤ 16 := by
    intro r r0 r1
    have hs := W.so r0 r1
    have hns : ns s0 b p c r = if r = p then (if c = 2 then 1 else if c = 3 then 0 else if c = 4 then 10 else s0.1 146 (40 * b + r)) else s0.1 146 (40 * b + r) := rfl
    rw [hns]
    repeat' split
    all_goals omega
  -- one place of the new program
  have pl : ∀ x, 0 ≤ x → x < s.1 142 2 → (0 ≤ g x ∧ g x < s0.1 142 b) ∧ s.1 182 (g x) = x := fun x a c => hg x a c
  have kdx : ∀ x k, 0 ≤ x → x < s.1 142 2 → 0 ≤ k → k < ar (ns s0 b p c (g x)) → bkd s 2 x k = x + 1 + n2 s0 b p c (g x) k.toNat ∧ g (bkd s 2 x k) = nk s0 b p c (g x) k ∧ 0 ≤ bkd s 2 x k := by
    intro x k x0 x1 k0 k1
    obtain ⟨⟨a0, a1⟩, e⟩ := pl x x0 x1
    have hk := cx.kid a0 a1 k0 k1
    have h8 := kidf (g x) k a0 a1 (by omega) k0 k1
    rw [e] at h8
    have h9 := h6 (g x) k a0 a1 (by omega) k0 k1
    rw [e] at h9
    have h10 : bkd s 2 x k = s.1 182 (nk s0 b p c (g x) k) := by
      unfold bkd
      rw [show 3 * ((40 : Int) * 2 + x) + k = 3 * (80 + x) + k by omega]; exact h9
    have hm := n2_mono cx a0 a1 k.toNat 0 (by omega)
    rw [Nat.zero_add] at hm
    have hm0 : n2 s0 b p c (g x) 0 = 0 := rfl
    refine ⟨by rw [h10, h8], ?_, by rw [h10, h8]; omega⟩
    rw [h10]
    exact gu _ (by omega) hk.2.2.2.1 (by omega)
  have Ex : ∀ x, 0 ≤ x → x < s.1 142 2 → x ≤ x + nz s0 b p c (g x) - 1 ∧ x + nz s0 b p c (g x) - 1 < s.1 142 2 := by
    intro x x0 x1
    obtain ⟨⟨a0, a1⟩, e⟩ := pl x x0 x1
    have hz := cx.nz_ge a0 a1
    have f1 := F1 (g x) a0 a1 (by omega)
    obtain ⟨⟨d0, d1⟩, _, _⟩ := W.dO a0 a1
    have := tot _ d0 d1
    omega
  have hOn : Od s0 b p c (s0.1 143 b) ≤ 40 ∧ 0 ≤ Od s0 b p c (s0.1 143 b) := by
    by_cases z : s0.1 143 b = 0
    · rw [z, Od_zero]; omega
    · have he := Od_succ (s0 := s0) (b := b) (p := p) (c := c) (d := s0.1 143 b - 1) (by omega)
      rw [show s0.1 143 b - 1 + 1 = s0.1 143 b by omega] at he
      have h8 := Od_end cx (d := s0.1 143 b - 1) (by omega) (by omega)
      have h9 := Od_le cx (s0.1 143 b - 1).toNat (s0.1 143 b - 1) (by omega) (by omega)
      have hr := W.dR (d := s0.1 143 b - 1) (by omega) (by omega)
      have hz := cx.nz_ge hr.1 hr.2
      omega
  refine ⟨fun x => x + nz s0 b p c (g x) - 1, ⟨?_, ?_, ?_, ?_, by omega⟩, ?_⟩
  · -- ends and kids
    intro x x0 x1
    obtain ⟨⟨a0, a1⟩, e⟩ := pl x x0 x1
    obtain ⟨c1, c2, c3, c4, c5⟩ := cont (g x) a0 a1 (by omega)
    rw [e] at c1
    have es : bso s 2 x = ns s0 b p c (g x) := by rw [eso]; exact c1
    have hz := cx.nz_sum a0 a1
    have har := ar_r (ns s0 b p c (g x))
    have n0 : n2 s0 b p c (g x) (0 : Int).toNat = 0 := rfl
    have n1 : n2 s0 b p c (g x) (1 : Int).toNat = n2 s0 b p c (g x) (0 : Int).toNat + nz s0 b p c (nk s0 b p c (g x) 0) := n2_succ (g x) 0
    have n2' : n2 s0 b p c (g x) (2 : Int).toNat = n2 s0 b p c (g x) (1 : Int).toNat + nz s0 b p c (nk s0 b p c (g x) 1) := n2_succ (g x) 1
    have n3 : n2 s0 b p c (g x) (3 : Int).toNat = n2 s0 b p c (g x) (2 : Int).toNat + nz s0 b p c (nk s0 b p c (g x) 2) := n2_succ (g x) 2
    have ex := Ex x x0 x1
    have zk : ∀ k, 0 ≤ k → k < ar (ns s0 b p c (g x)) → 1 ≤ nz s0 b p c (nk s0 b p c (g x) k) := fun k k0 k1 => by
      have hk := cx.kid a0 a1 k0 k1
      exact (cx.nz_ge (by omega) hk.2.2.2.1).1
    rw [es]
    dsimp only
    refine ⟨sor _ a0 a1, ex, fun h => ?_, fun h => ?_, fun h => ?_, fun h => ?_, fun h => ?_, fun h => ?_⟩
    · rw [h] at hz
      have : n2 s0 b p c (g x) (0 : Int).toNat = 0 := rfl
      omega
    · obtain ⟨k1, k2, k3⟩ := kdx x 0 x0 x1 (by omega) (by omega)
      have z0 := zk 0 (by omega) (by omega)
      have hm := n2_mono cx a0 a1 ((ar (ns s0 b p c (g x))).toNat - 1) 1 (by omega)
      rw [show 1 + ((ar (ns s0 b p c (g x))).toNat - 1) = (ar (ns s0 b p c (g x))).toNat by omega] at hm
      have hm1 : n2 s0 b p c (g x) 1 = n2 s0 b p c (g x) (1 : Int).toNat := rfl
      omega
    · obtain ⟨k1, k2, k3⟩ := kdx x 0 x0 x1 (by omega) (by omega)
      rw [k2, k1]
      rw [h] at hz
      omega
    · obtain ⟨k1, k2, k3⟩ := kdx x 0 x0 x1 (by omega) (by omega)
      obtain ⟨l1, l2, l3⟩ := kdx x 1 x0 x1 (by omega) (by omega)
      have z1 := zk 1 (by omega) (by omega)
      have hm := n2_mono cx a0 a1 ((ar (ns s0 b p c (g x))).toNat - 2) 2 (by omega)
      rw [show 2 + ((ar (ns s0 b p c (g x))).toNat - 2) = (ar (ns s0 b p c (g x))).toNat by omega] at hm
      have hm1 : n2 s0 b p c (g x) 2 = n2 s0 b p c (g x) (2 : Int).toNat := rfl
      rw [k2]
      omega
    · obtain ⟨l1, l2, l3⟩ := kdx x 1 x0 x1 (by omega) (by omega)
      rw [l2, l1]
      rw [h] at hz
      omega
    · obtain ⟨l1, l2, l3⟩ := kdx x 1 x0 x1 (by omega) (by omega)
      obtain ⟨m1, m2, m3⟩ := kdx x 2 x0 x1 (by omega) (by omega)
      have z2 := zk 2 (by omega) (by omega)
      rw [l2, m2]
      rw [h] at hz
      omega
  · -- defs
    have gd : ∀ d, 0 ≤ d → d < s0.1 143 b → bdR s 2 d = Od s0 b p c d ∧ g (Od s0 b p c d) = s0.1 145 (8 * b + d) := by
      intro d d0 d1
      have hr := W.dR d0 d1
      have h8 := (h5 d d0 d1).1
      have h9 := Od_le cx d.toNat d (by omega) d1
      refine ⟨by rw [e16]; exact h4 d d0 d1, ?_⟩
      rw [← h8]
      exact gu _ hr.1 hr.2 (by omega)
    refine ⟨by omega, by omega, fun h => ?_, fun h => ?_, fun d d0 d1 => ?_, fun d d0 d1 => ?_⟩
    · rw [h1, ← h2, h]; rfl
    · obtain ⟨a1, a2⟩ := gd 0 (by omega) (by omega)
      obtain ⟨b1, b2⟩ := gd (s0.1 143 b - 1) (by omega) (by omega)
      have he := Od_succ (s0 := s0) (b := b) (p := p) (c := c) (d := s0.1 143 b - 1) (by omega)
      rw [show s0.1 143 b - 1 + 1 = s0.1 143 b by omega] at he
      refine ⟨by rw [a1]; rfl, ?_⟩
      rw [h2]
      dsimp only
      rw [b1, b2]; omega
    · obtain ⟨a1, a2⟩ := gd d d0 (by omega)
      have h9 := Od_le cx d.toNat d (by omega) (by omega)
      have ht := tot d d0 (by omega)
      have hr := W.dR d0 (show d < s0.1 143 b by omega)
      have hz := cx.nz_ge hr.1 hr.2
      rw [a1]; omega
    · obtain ⟨a1, a2⟩ := gd d d0 (by omega)
      obtain ⟨b1, b2⟩ := gd (d + 1) (by omega) (by omega)
      have he := Od_succ (s0 := s0) (b := b) (p := p) (c := c) d0
      dsimp only
      rw [a1, b1, a2, he]; omega
  · -- the def of a place
    intro x x0 x1
    obtain ⟨⟨a0, a1⟩, e⟩ := pl x x0 x1
    obtain ⟨c1, c2, c3, c4, c5⟩ := cont (g x) a0 a1 (by omega)
    rw [e] at c2
    obtain ⟨⟨d0, d1⟩, d2, d3⟩ := W.dO a0 a1
    have ed : bdO s 2 x = s0.1 149 (40 * b + g x) := by unfold bdO; rw [e80]; exact c2
    have f1 := F1 (g x) a0 a1 (by omega)
    have hz := cx.nz_ge a0 a1
    have hr := W.dR d0 d1
    have h8 := (h5 _ d0 d1).1
    have h9 := Od_le cx (s0.1 149 (40 * b + g x)).toNat (s0.1 149 (40 * b + g x)) (by omega) d1
    have hgd : g (Od s0 b p c (s0.1 149 (40 * b + g x))) = s0.1 145 (8 * b + s0.1 149 (40 * b + g x)) := by
      rw [← h8]
      exact gu _ hr.1 hr.2 (by omega)
    rw [ed, e16, h4 _ d0 d1]
    dsimp only
    rw [hgd]
    omega
  · -- what NAMES mean
    intro x x0 x1
    obtain ⟨⟨a0, a1⟩, e⟩ := pl x x0 x1
    obtain ⟨c1, c2, c3, c4, c5⟩ := cont (g x) a0 a1 (by omega)
    rw [e] at c1 c2 c5
    have es : bso s 2 x = ns s0 b p c (g x) := by rw [eso]; exact c1
    have ebi : bbi s 2 x = nv (s.1 182) (nb s0 b p c its (g x)) := by unfold bbi; rw [e80]; exact c5
    have ed : bdO s 2 x = s0.1 149 (40 * b + g x) := by unfold bdO; rw [e80]; exact c2
    have hns : ns s0 b p c (g x) = if g x = p then (if c = 2 then 1 else if c = 3 then 0 else if c = 4 then 10 else s0.1 146 (40 * b + g x)) else s0.1 146 (40 * b + g x) := rfl
    have hnb : nb s0 b p c its (g x) = if g x = p then (if c = 0 then s0.1 153 (40 * b + g x) else if c = 1 then its else -1) else s0.1 153 (40 * b + g x) := rfl
    have hcc : 0 ≤ c ∧ c ≤ 4 := hcg.1
    have t0 : c = 0 → s0.1 146 (40 * b + p) = 6 ∨ s0.1 146 (40 * b + p) = 7 ∨ s0.1 146 (40 * b + p) = 11 ∨ s0.1 146 (40 * b + p) = 14 ∨ s0.1 146 (40 * b + p) = 15 ∨ s0.1 146 (40 * b + p) = 5 := hcg.2.1
    have t1 : c = 1 → s0.1 146 (40 * b + p) = 2 := hcg.2.2.1
    refine ⟨fun h2 => ?_, fun h2 => ?_⟩
    · rw [es] at h2
      -- what it means in the source
      have src : (100 ≤ nb s0 b p c its (g x) ∧ nb s0 b p c its (g x) - 100 < s0.1 149 (40 * b + g x)) ∨ (nb s0 b p c its (g x) < 100 ∧ (0 ≤ nb s0 b p c its (g x) ∧ nb s0 b p c its (g x) < g x ∧ g x ≤ s0.1 150 (40 * b + nb s0 b p c its (g x))) ∧ (s0.1 146 (40 * b + nb s0 b p c its (g x)) = 3 ∨ s0.1 146 (40 * b + nb s0 b p c its (g x)) = 4 ∧ s0.1 152 (3 * (40 * b + nb s0 b p c its (g x)) + 1) ≤ g x)) := by
        by_cases q : g x = p
        · rw [if_pos q] at hns hnb
          by_cases q1 : c = 1
          · rw [if_neg (by omega), if_pos q1] at hnb
            rw [hnb, q]
            have := (hits q1).2
            rcases this with ⟨u1, u2⟩ | u
            · exact Or.inr ⟨by omega, u1, u2⟩
            · exact Or.inl u
          · exfalso
            rw [hns] at h2
            by_cases y2 : c = 2
            · rw [if_pos y2] at h2; omega
            · rw [if_neg y2] at h2
              by_cases y3 : c = 3
              · rw [if_pos y3] at h2; omega
              · rw [if_neg y3] at h2
                by_cases y4 : c = 4
                · rw [if_pos y4] at h2; omega
                · rw [if_neg y4, q] at h2
                  have := t0 (by omega)
                  omega
        · rw [if_neg q] at hns hnb
          have hn := W.name a0 a1 (by omega)
          rw [hnb]
          by_cases y : s0.1 153 (40 * b + g x) < 100
          · exact Or.inr ⟨y, hn.1 y⟩
          · exact Or.inl ⟨by omega, hn.2 (by omega)⟩
      rcases src with ⟨u1, u2⟩ | ⟨u0, ⟨u1, u2, u3⟩, u4⟩
      · have en : nv (s.1 182) (nb s0 b p c its (g x)) = nb s0 b p c its (g x) := by unfold nv; rw [if_pos (by omega)]
        rw [ebi, en, ed]
        exact ⟨fun h => by omega, fun _ => u2⟩
      · have en : nv (s.1 182) (nb s0 b p c its (g x)) = s.1 182 (nb s0 b p c its (g x)) := by unfold nv; rw [if_neg (by omega)]
        have ns1 := nest (nb s0 b p c its (g x)) (g x) u1 (by omega) u2 u3 (by omega)
        rw [e] at ns1
        have gg := gu (nb s0 b p c its (g x)) u1 (by omega) ns1.1
        obtain ⟨k1, _⟩ := cont (nb s0 b p c its (g x)) u1 (by omega) ns1.1
        have hnot4 : ¬ (nb s0 b p c its (g x) = p ∧ c = 4) := by
          intro ⟨q1, q2⟩
          have hz4 : nz s0 b p c p = s0.1 150 (40 * b + p) - p + 1 - (if c = 4 ∧ p ≤ p ∧ p ≤ s0.1 150 (40 * b + p) then s0.1 150 (40 * b + p) - p else 0) := rfl
          rw [if_pos ⟨q2, Int.le_refl _, pe.1⟩] at hz4
          rw [q1] at ns1
          omega
        have kns : ns s0 b p c (nb s0 b p c its (g x)) = s0.1 146 (40 * b + nb s0 b p c its (g x)) := by
          have : ns s0 b p c (nb s0 b p c its (g x)) = if nb s0 b p c its (g x) = p then (if c = 2 then 1 else if c = 3 then 0 else if c = 4 then 10 else s0.1 146 (40 * b + nb s0 b p c its (g x))) else s0.1 146 (40 * b + nb s0 b p c its (g x)) := rfl
          rw [this]
          by_cases q : nb s0 b p c its (g x) = p
          · have x2 : c = 2 → s0.1 146 (40 * b + p) = 0 := hcg.2.2.2.1
            have x3 : c = 3 → s0.1 146 (40 * b + p) = 1 := hcg.2.2.2.2
            rw [if_pos q, if_neg (fun h => by have := x2 h; rw [q] at u4; omega), if_neg (fun h => by have := x3 h; rw [q] at u4; omega), if_neg (fun h => hnot4 ⟨q, h⟩)]
          · rw [if_neg q]
        rw [ebi, en]
        refine ⟨fun _ => ⟨⟨ns1.1, ns1.2.1, ?_⟩, ?_⟩, fun h => ?_⟩
        · dsimp only
          rw [gg]; omega
        · rw [eso, k1, kns]
          rcases u4 with u4 | ⟨u4, u5⟩
          · exact Or.inl u4
          · refine Or.inr ⟨u4, ?_⟩
            have kn := h6 (nb s0 b p c its (g x)) 1 u1 (by omega) ns1.1 (by omega) (by rw [kns, u4]; decide)
            have ek : nk s0 b p c (nb s0 b p c its (g x)) 1 = s0.1 152 (3 * (40 * b + nb s0 b p c its (g x)) + 1) := by
              unfold nk kb
              have e5 : ¬ bso s0 b (nb s0 b p c its (g x)) = 5 := by show ¬ s0.1 146 _ = 5; rw [u4]; omega
              rw [if_neg e5, if_neg (fun h => by have := t0 h.2; rw [h.1] at u4; omega)]
              rfl
            have kn2 : bkd s 2 (s.1 182 (nb s0 b p c its (g x))) 1 = s.1 182 (s0.1 152 (3 * (40 * b + nb s0 b p c its (g x)) + 1)) := by
              unfold bkd
              rw [show 3 * ((40 : Int) * 2 + s.1 182 (nb s0 b p c its (g x))) + 1 = 3 * (80 + s.1 182 (nb s0 b p c its (g x))) + 1 by omega, kn, ek]
            rw [kn2]
            have hl := W.let1 u1 (by omega) u4
            have hk1 := cx.2.1.kid u1 (show nb s0 b p c its (g x) < s0.1 142 b by omega) (show (0 : Int) ≤ 1 by omega) (by rw [u4]; decide)
            have hen : s0.1 150 (40 * b + nb s0 b p c its (g x)) = s0.1 150 (40 * b + s0.1 152 (3 * (40 * b + nb s0 b p c its (g x)) + 1)) := (W.1 _ u1 (by omega)).2.2.2.2.2.2.1 (by show ar (s0.1 146 _) = 2; rw [u4]; decide)
            by_cases q : s0.1 152 (3 * (40 * b + nb s0 b p c its (g x)) + 1) = g x
            · rw [q, e]; omega
            · have := nest (s0.1 152 (3 * (40 * b + nb s0 b p c its (g x)) + 1)) (g x) (by omega) hk1.2.2.2 (by omega) (by omega) (by omega)
              omega
        · have hz := cx.nz_ge u1 (show nb s0 b p c its (g x) < s0.1 142 b by omega)
          have f1 := F1 (nb s0 b p c its (g x)) u1 (by omega) ns1.1
          obtain ⟨⟨y0, y1⟩, _, _⟩ := W.dO u1 (show nb s0 b p c its (g x) < s0.1 142 b by omega)
          have := tot _ y0 y1
          omega
    · rw [es] at h2
      have hneg : nb s0 b p c its (g x) = -1 := by
        rw [hnb]
        by_cases q : g x = p
        · rw [if_pos q] at hns ⊢
          by_cases q0 : c = 0
          · rw [if_pos q0]
            rw [if_neg (by omega), if_neg (by omega), if_neg (by omega)] at hns
            exact W.noname a0 a1 (by omega)
          · rw [if_neg q0]
            by_cases q1 : c = 1
            · exfalso
              rw [if_neg (by omega), if_neg (by omega), if_neg (by omega), q] at hns
              have := t1 q1
              rw [q] at h2
              omega
            · rw [if_neg q1]
        · rw [if_neg q] at hns ⊢
          exact W.noname a0 a1 (by omega)
      rw [ebi, hneg]; rfl
  · -- told kinds
    have hK := W.nK
    refine ⟨by omega, fun k k0 k1 => ?_, fun x x0 x1 h2 => ?_⟩
    · have := W.kC k0 (by omega)
      have ek : bkC s 2 k = s0.1 156 (20 * b + k) := by unfold bkC; rw [show (20 : Int) * 2 + k = 40 + k by omega]; exact h7 k k0 (by omega)
      rw [ek]; exact this
    · obtain ⟨⟨a0, a1⟩, e⟩ := pl x x0 x1
      obtain ⟨c1, c2, c3, c4, c5⟩ := cont (g x) a0 a1 (by omega)
      rw [e] at c1 c3 c4
      rw [eso, c1] at h2
      have hns : ns s0 b p c (g x) = if g x = p then (if c = 2 then 1 else if c = 3 then 0 else if c = 4 then 10 else s0.1 146 (40 * b + g x)) else s0.1 146 (40 * b + g x) := rfl
      have h16 : s0.1 146 (40 * b + g x) = 16 := by
        rw [hns] at h2
        by_cases q : g x = p
        · rw [if_pos q] at h2
          by_cases y2 : c = 2
          · rw [if_pos y2] at h2; omega
          · rw [if_neg y2] at h2
            by_cases y3 : c = 3
            · rw [if_pos y3] at h2; omega
            · rw [if_neg y3] at h2
              by_cases y4 : c = 4
              · rw [if_pos y4] at h2; omega
              · rw [if_neg y4] at h2; exact h2
        · rw [if_neg q] at h2; exact h2
      obtain ⟨⟨u1, u2, u3⟩, u4⟩ := W.told a0 a1 h16
      have eA : bkA s 2 x = s0.1 154 (40 * b + g x) := by unfold bkA; rw [e80]; exact c3
      have eL : bkL s 2 x = s0.1 155 (40 * b + g x) := by unfold bkL; rw [e80]; exact c4
      rw [eA, eL]
      refine ⟨by omega, u4.congr (by omega) (fun k k0 k1 => ?_)⟩
      unfold bkC
      rw [show (20 : Int) * 2 + k = 40 + k by omega]; exact h7 k (by omega) (by omega)
end NB
