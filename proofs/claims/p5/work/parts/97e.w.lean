/-! THE REFERENCE: banks copied; the asks of a program written anew are the same each time -/
section WC
variable {s s' : ST} {b b' : Int}
theorem WF.copy (h : WF s b) (q : WQ s b s' b') (hb : 0 ≤ b' ∧ b' < 6) : WF s' b' := by
  have nn := h.nn
  have hK := h.nK
  obtain ⟨⟨q1, q2, q3⟩, q4, q5, q6⟩ := q
  have c : ∀ x, 0 ≤ x → x < 40 → bso s' b' x = bso s b x ∧ ben s' b' x = ben s b x ∧ bas s' b' x = bas s b x ∧ bbi s' b' x = bbi s b x ∧ bkA s' b' x = bkA s b x ∧ bkL s' b' x = bkL s b x ∧ bdO s' b' x = bdO s b x := fun x x0 x1 => by
    obtain ⟨a1, a2, a3, a4, a5, a6, a7⟩ := (q6 x x0 x1).1
    exact ⟨a1, a3, a4, a5, a6, a7, a2⟩
  have kd : ∀ x k, 0 ≤ x → x < 40 → 0 ≤ k → k < 3 → bkd s' b' x k = bkd s b x k := fun x k x0 x1 k0 k1 => (q6 x x0 x1).2 k k0 k1
  have dr : ∀ d, 0 ≤ d → d < 8 → bdR s' b' d = bdR s b d := fun d d0 d1 => q4 d d0 d1
  obtain ⟨t1, t2, t3, t4, t5, t6, _⟩ := id h
  refine ⟨?_, ?_, ?_, ?_, ?_, ?_, hb⟩
  · rw [q1]
    intro x x0 x1
    obtain ⟨a1, a2, a3, a4, a5, a6, a7, a8⟩ := t1 x x0 x1
    have hk : ∀ k, 0 ≤ k → k < ar (bso s b x) → 0 ≤ bkd s b x k ∧ bkd s b x k < s.1 142 b := fun k k0 k1 => by
      have := t1.kid x0 x1 k0 k1
      omega
    obtain ⟨c1, c2, _⟩ := c x x0 (by omega)
    rw [c1, c2, kd x 0 x0 (by omega) (by omega) (by omega), kd x 1 x0 (by omega) (by omega) (by omega), kd x 2 x0 (by omega) (by omega) (by omega)]
    refine ⟨a1, a2, a3, a4, fun h => ?_, fun h => ?_, fun h => ?_, fun h => ?_⟩
    · have := hk 0 (by omega) (by omega)
      rw [(c _ this.1 (by omega)).2.1]; exact a5 h
    · have := hk 0 (by omega) (by omega)
      rw [(c _ this.1 (by omega)).2.1]; exact a6 h
    · have := hk 1 (by omega) (by omega)
      rw [(c _ this.1 (by omega)).2.1]; exact a7 h
    · have h1 := hk 1 (by omega) (by omega)
      have h2 := hk 2 (by omega) (by omega)
      rw [(c _ h1.1 (by omega)).2.1, (c _ h2.1 (by omega)).2.1]; exact a8 h
  · rw [q1, q2]
    obtain ⟨a1, a2, a3, a4, a5, a6⟩ := t2
    refine ⟨a1, a2, a3, fun h => ?_, fun d d0 d1 => ?_, fun d d0 d1 => ?_⟩
    · have := a5 (s.1 143 b - 1) (by omega) (by omega)
      rw [dr 0 (by omega) (by omega), dr (s.1 143 b - 1) (by omega) (by omega), (c _ this.1 (by omega)).2.1]; exact a4 h
    · rw [dr d d0 (by omega)]; exact a5 d d0 d1
    · have := a5 d d0 (by omega)
      rw [dr d d0 (by omega), dr (d + 1) (by omega) (by omega), (c _ this.1 (by omega)).2.1]; exact a6 d d0 d1
  · rw [q1, q2]
    intro x x0 x1
    obtain ⟨⟨a1, a2⟩, a3, a4⟩ := t3 x x0 x1
    have := t2.2.2.2.2.1 _ a1 a2
    rw [(c x x0 (by omega)).2.2.2.2.2.2, dr _ a1 (by omega), (c _ this.1 (by omega)).2.1]; exact ⟨⟨a1, a2⟩, a3, a4⟩
  · rw [q1]
    intro x x0 x1
    obtain ⟨a1, a2⟩ := t4 x x0 x1
    rw [(c x x0 (by omega)).1, (c x x0 (by omega)).2.2.2.1, (c x x0 (by omega)).2.2.2.2.2.2]
    refine ⟨fun h => ⟨fun h2 => ?_, (a1 h).2⟩, a2⟩
    obtain ⟨⟨b1, b2, b3⟩, b4⟩ := (a1 h).1 h2
    rw [(c _ b1 (by omega)).1, (c _ b1 (by omega)).2.1, kd _ 1 b1 (by omega) (by omega) (by omega)]; exact ⟨⟨b1, b2, b3⟩, b4⟩
  · rw [q1, q3]
    obtain ⟨a1, a2, a3⟩ := t5
    have kc : ∀ k, 0 ≤ k → k < 20 → bkC s' b' k = bkC s b k := fun k k0 k1 => q5 k k0 k1
    refine ⟨a1, fun k k0 k1 => by rw [kc k k0 (by omega)]; exact a2 k k0 k1, fun x x0 x1 hx => ?_⟩
    rw [(c x x0 (by omega)).1] at hx
    obtain ⟨⟨e1, e2, e3⟩, e4⟩ := a3 x x0 x1 hx
    rw [(c x x0 (by omega)).2.2.2.2.1, (c x x0 (by omega)).2.2.2.2.2.1]
    exact ⟨⟨e1, e2, e3⟩, e4.congr (by omega) (fun k k0 k1 => kc k (by omega) (by omega))⟩
  · rw [q1]
    intro x x0 x1
    have hx := t6 x x0 x1
    have es := (c x x0 (by omega)).1
    have har := ar_r (bso s b x)
    have e1 : ksum (bso s' b') (bas s' b') (bkd s' b') x = ksum (bso s b) (bas s b) (bkd s b) x := by
      rw [ksum_sm, ksum_sm, es]
      refine sm_congr _ (fun k k0 k1 => ?_)
      have := t1.kid x0 x1 k0 (show k < ar (bso s b x) by omega)
      rw [kd x k x0 (by omega) k0 (by omega), (c (bkd s b x k) (by omega) (by omega)).2.2.1]
    have e2 : exw (bso s' b') (bbi s' b') (bdR s' b') (bas s' b') (bkd s' b') x = exw (bso s b) (bbi s b) (bdR s b) (bas s b) (bkd s b) x := by
      unfold exw
      rw [es]
      by_cases e : bso s b x = 2
      · rw [if_pos e, if_pos e]
        have er : rt (bso s' b') (bbi s' b') (bdR s' b') (bkd s' b') x = rt (bso s b) (bbi s b) (bdR s b) (bkd s b) x := by
          unfold rt
          rw [(c x x0 (by omega)).2.2.2.1]
          have h4 := (t4 x x0 x1).1 e
          have h3 := (t3 x x0 x1).1
          by_cases d : bbi s b x < 100
          · obtain ⟨⟨b1, b2, b3⟩, _⟩ := h4.1 d
            rw [if_pos d, if_pos d, (c _ b1 (by omega)).1, kd _ 0 b1 (by omega) (by omega) (by omega)]
          · have := h4.2 (by omega)
            rw [if_neg d, if_neg d, dr _ (by omega) (by omega)]
        rw [er]
        by_cases d : rt (bso s b) (bbi s b) (bdR s b) (bkd s b) x < 0
        · rw [if_pos d, if_pos d]
        · rw [if_neg d, if_neg d]
          have hr : rt (bso s b) (bbi s b) (bdR s b) (bkd s b) x < s.1 142 b := by
            rw [← F_root]
            rw [← F_root] at d
            rcases h.root x0 x1 e with ⟨_, _, h⟩ | ⟨_, _, _, _, h⟩ | ⟨_, _, _, _, h⟩ <;> omega
          exact (c _ (by omega) (by omega)).2.2.1
      · rw [if_neg e, if_neg e]
    rw [(c x x0 (by omega)).2.2.1, e1, e2]
    exact hx
theorem LV.copy (h : LV s b) (q : WQ s b s' b') (hb : 0 ≤ b' ∧ b' < 6) : LV s' b' := by
  refine ⟨h.1.copy q hb, ?_⟩
  have nn := h.1.nn
  have h2 := h.2
  obtain ⟨⟨q1, q2, q3⟩, q4, q5, q6⟩ := q
  rw [q2]
  rw [sm_congr (g := fun d => s.1 151 (40 * b + s.1 145 (8 * b + d))) _ (fun d d0 d1 => ?_)]
  · exact h2
  · have hr := h.1.dR d0 (show d < s.1 143 b by omega)
    show s'.1 151 (40 * b' + s'.1 145 (8 * b' + d)) = s.1 151 (40 * b + s.1 145 (8 * b + d))
    rw [q4 d d0 (by omega)]
    exact (q6 _ hr.1 (by omega)).1.2.2.2.1
end WC
theorem bank_wq {s s' : ST} {p q : Int} (h : bankEq s p s' q) : WQ s p s' q := by
  obtain ⟨h1, h2, h3, h4⟩ := h
  refine ⟨h1, fun i i0 i1 => (h2 i i0 i1).1, h3, fun i i0 i1 => ?_⟩
  obtain ⟨⟨a1, a2, a3, a4, a5, a6, a7, a8, a9, a10⟩, a11⟩ := h4 i i0 i1
  exact ⟨⟨a1, a4, a5, a6, a7, a8, a9⟩, a11⟩
theorem CHD.wq {s s' : ST} {b : Int} (h : CHD s s') (hb : (0 ≤ b ∧ b ≤ 1) ∨ (3 ≤ b ∧ b ≤ 5)) : WQ s b s' b := by
  obtain ⟨_, _, h1, h2, h3, h4, h5⟩ := h
  refine ⟨h1 b (by omega), fun i i0 i1 => (h2 _ (by omega)).1, fun i i0 i1 => h3 _ (by omega), fun i i0 i1 => ?_⟩
  obtain ⟨⟨a1, a2, a3, a4, a5, a6⟩, a7, a8⟩ := h4 (40 * b + i) (by omega)
  exact ⟨⟨a1, a2, a7, a8, a3, a4, a5⟩, fun k k0 k1 => h5 _ (by omega)⟩
/-- what a NAME written anew means, in the source -/
theorem CX.src {s0 : ST} {b p c w its : Int} (cx : CX s0 b p c w its) {q : Int} (a0 : 0 ≤ q) (a1 : q < s0.1 142 b) (h2 : ns s0 b p c q = 2) : (100 ≤ nb s0 b p c its q ∧ nb s0 b p c its q - 100 < s0.1 149 (40 * b + q)) ∨ (nb s0 b p c its q < 100 ∧ (0 ≤ nb s0 b p c its q ∧ nb s0 b p c its q < q ∧ q ≤ s0.1 150 (40 * b + nb s0 b p c its q)) ∧ (s0.1 146 (40 * b + nb s0 b p c its q) = 3 ∨ s0.1 146 (40 * b + nb s0 b p c its q) = 4 ∧ s0.1 152 (3 * (40 * b + nb s0 b p c its q) + 1) ≤ q)) := by
  obtain ⟨b01, W, hp, hcg, hits⟩ := id cx
  have nn := W.nn
  have hns : ns s0 b p c q = if q = p then (if c = 2 then 1 else if c = 3 then 0 else if c = 4 then 10 else s0.1 146 (40 * b + q)) else s0.1 146 (40 * b + q) := rfl
  have hnb : nb s0 b p c its q = if q = p then (if c = 0 then s0.1 153 (40 * b + q) else if c = 1 then its else -1) else s0.1 153 (40 * b + q) := rfl
  have hcc : 0 ≤ c ∧ c ≤ 4 := hcg.1
  have t0 : c = 0 → s0.1 146 (40 * b + p) = 6 ∨ s0.1 146 (40 * b + p) = 7 ∨ s0.1 146 (40 * b + p) = 11 ∨ s0.1 146 (40 * b + p) = 14 ∨ s0.1 146 (40 * b + p) = 15 ∨ s0.1 146 (40 * b + p) = 5 := hcg.2.1
  by_cases e : q = p
  · rw [if_pos e] at hns hnb
    by_cases q1 : c = 1
    · rw [if_neg (by omega), if_pos q1] at hnb
      rw [hnb, e]
      rcases (hits q1).2 with ⟨u1, u2⟩ | u
      · exact Or.inr ⟨by omega, u1, u2⟩
      · exact Or.inl u
    · exfalso
      rw [hns] at h2
      by_cases y2 : c = 2
      · rw [if_pos y2] at h2; omega
      · rw [if_neg y2] at h2
        by_cases y3 : c = 3
        · rw [if_pos y3] at h2; omega
        · rw [if_neg y3] at h2
          by_cases y4 : c = 4
          · rw [if_pos y4] at h2; omega
          · rw [if_neg y4, e] at h2
            have := t0 (by omega)
            omega
  · rw [if_neg e] at hns hnb
    have hn := W.name a0 a1 (by omega)
    rw [hnb]
    by_cases y : s0.1 153 (40 * b + q) < 100
    · exact Or.inr ⟨y, hn.1 y⟩
    · exact Or.inl ⟨by omega, hn.2 (by omega)⟩
/-- the asks of the place that q has become -/
def An (s : ST) (q : Int) : Int := s.1 151 (80 + s.1 182 q)
theorem NEW.asks {s0 s : ST} {b p c w its : Int} (cx : CX s0 b p c w its) (h : NEW s0 b p c its s) {q : Int} (q0 : 0 ≤ q) (q1 : q < s0.1 142 b) (hq : 0 ≤ s.1 182 q) :
    (∀ k, 0 ≤ k → k < ar (ns s0 b p c q) → 0 ≤ s.1 182 (nk s0 b p c q k)) ∧ ksum (bso s 2) (bas s 2) (bkd s 2) (s.1 182 q) = sm (fun k => An s (nk s0 b p c q k)) 0 (ar (ns s0 b p c q)).toNat ∧
    exw (bso s 2) (bbi s 2) (bdR s 2) (bas s 2) (bkd s 2) (s.1 182 q) = (if ns s0 b p c q = 2 then (if 100 ≤ nb s0 b p c its q then An s (s0.1 145 (8 * b + (nb s0 b p c its q - 100))) else if s0.1 146 (40 * b + nb s0 b p c its q) = 4 then An s (s0.1 152 (3 * (40 * b + nb s0 b p c its q) + 0)) else 0) else 0) ∧
    (ns s0 b p c q = 2 → nb s0 b p c its q < 100 → s0.1 146 (40 * b + nb s0 b p c its q) = 4 → 0 ≤ s.1 182 (s0.1 152 (3 * (40 * b + nb s0 b p c its q) + 0))) := by
  obtain ⟨h1, h2, h3, h4, h5, h6, h7⟩ := h
  have W := cx.2.1
  have nn := W.nn
  have pe := W.en cx.2.2.1.1 cx.2.2.1.2
  have hcg := cx.2.2.2.1
  have t0 : c = 0 → s0.1 146 (40 * b + p) = 6 ∨ s0.1 146 (40 * b + p) = 7 ∨ s0.1 146 (40 * b + p) = 11 ∨ s0.1 146 (40 * b + p) = 14 ∨ s0.1 146 (40 * b + p) = 15 ∨ s0.1 146 (40 * b + p) = 5 := hcg.2.1
  have e80 : ∀ a x, s.1 a (40 * 2 + x) = s.1 a (80 + x) := fun a x => by rw [show (40 : Int) * 2 + x = 80 + x by omega]
  have i1 := (NEW.inj cx h5).1
  have cont : ∀ r, 0 ≤ r → r < s0.1 142 b → 0 ≤ s.1 182 r → s.1 146 (80 + s.1 182 r) = ns s0 b p c r ∧ s.1 153 (80 + s.1 182 r) = nv (s.1 182) (nb s0 b p c its r) := by
    intro r r0 r1 hr
    obtain ⟨⟨d0, d1⟩, d2, d3⟩ := W.dO r0 r1
    have := (h5 _ d0 d1).2.2.2.2.2.1 r d2 d3 hr
    exact ⟨this.1, this.2.2.2.2⟩
  have kidf : ∀ r k, 0 ≤ r → r < s0.1 142 b → 0 ≤ s.1 182 r → 0 ≤ k → k < ar (ns s0 b p c r) → 0 ≤ s.1 182 (nk s0 b p c r k) := by
    intro r k r0 r1 hr k0 k1
    obtain ⟨⟨d0, d1⟩, d2, d3⟩ := W.dO r0 r1
    have := (h5 _ d0 d1).2.2.1 r k d2 d3 hr k0 k1
    have hm := n2_mono cx r0 r1 k.toNat 0 (by omega)
    rw [Nat.zero_add] at hm
    have hm0 : n2 s0 b p c r 0 = 0 := rfl
    omega
  obtain ⟨c1, c2⟩ := cont q q0 q1 hq
  have es : bso s 2 (s.1 182 q) = ns s0 b p c q := (e80 146 _).trans c1
  have ebk : ∀ r k, 0 ≤ r → r < s0.1 142 b → 0 ≤ s.1 182 r → 0 ≤ k → k < ar (ns s0 b p c r) → bkd s 2 (s.1 182 r) k = s.1 182 (nk s0 b p c r k) := by
    intro r k r0 r1 hr k0 k1
    unfold bkd
    rw [show 3 * ((40 : Int) * 2 + s.1 182 r) + k = 3 * (80 + s.1 182 r) + k by omega]
    exact h6 r k r0 r1 hr k0 k1
  have let0 : ns s0 b p c q = 2 → nb s0 b p c its q < 100 → s0.1 146 (40 * b + nb s0 b p c its q) = 4 → (0 ≤ nb s0 b p c its q ∧ nb s0 b p c its q < s0.1 142 b ∧ 0 ≤ s.1 182 (nb s0 b p c its q)) ∧ ns s0 b p c (nb s0 b p c its q) = 4 ∧ nk s0 b p c (nb s0 b p c its q) 0 = s0.1 152 (3 * (40 * b + nb s0 b p c its q) + 0) := by
    intro x1 x2 x3
    rcases cx.src q0 q1 x1 with ⟨u1, _⟩ | ⟨u0, ⟨u1, u2, u3⟩, u4⟩
    · omega
    · obtain ⟨⟨d0, d1⟩, d2, d3⟩ := W.dO u1 (show nb s0 b p c its q < s0.1 142 b by omega)
      have nst := (h5 _ d0 d1).2.2.2.2.1 (nb s0 b p c its q) q d2 u2 u3 d3 hq
      have hnot4 : ¬ (nb s0 b p c its q = p ∧ c = 4) := by
        intro ⟨y1, y2⟩
        have hz4 : nz s0 b p c p = s0.1 150 (40 * b + p) - p + 1 - (if c = 4 ∧ p ≤ p ∧ p ≤ s0.1 150 (40 * b + p) then s0.1 150 (40 * b + p) - p else 0) := rfl
        rw [if_pos ⟨y2, Int.le_refl _, pe.1⟩] at hz4
        rw [y1] at nst
        omega
      refine ⟨⟨u1, by omega, nst.1⟩, ?_, ?_⟩
      · have : ns s0 b p c (nb s0 b p c its q) = if nb s0 b p c its q = p then (if c = 2 then 1 else if c = 3 then 0 else if c = 4 then 10 else s0.1 146 (40 * b + nb s0 b p c its q)) else s0.1 146 (40 * b + nb s0 b p c its q) := rfl
        rw [this]
        by_cases y : nb s0 b p c its q = p
        · have z2 : c = 2 → s0.1 146 (40 * b + p) = 0 := hcg.2.2.2.1
          have z3 : c = 3 → s0.1 146 (40 * b + p) = 1 := hcg.2.2.2.2
          rw [if_pos y, if_neg (fun h => by have := z2 h; rw [y] at x3; omega), if_neg (fun h => by have := z3 h; rw [y] at x3; omega), if_neg (fun h => hnot4 ⟨y, h⟩)]; exact x3
        · rw [if_neg y]; exact x3
      · unfold nk kb
        have e5 : ¬ bso s0 b (nb s0 b p c its q) = 5 := by show ¬ s0.1 146 _ = 5; rw [x3]; omega
        rw [if_neg e5, if_neg (fun h => by have := t0 h.2; rw [h.1] at x3; omega)]
        rfl
  refine ⟨fun k k0 k1 => kidf q k q0 q1 hq k0 k1, ?_, ?_, fun x1 x2 x3 => ?_⟩
  · rw [ksum_sm, es]
    refine sm_congr _ (fun k k0 k1 => ?_)
    have har := ar_r (ns s0 b p c q)
    rw [ebk q k q0 q1 hq k0 (by omega)]
    show s.1 151 (40 * 2 + s.1 182 (nk s0 b p c q k)) = _
    rw [e80]; rfl
  · unfold exw rt
    rw [es]
    by_cases x1 : ns s0 b p c q = 2
    · rw [if_pos x1, if_pos x1]
      have ebi : bbi s 2 (s.1 182 q) = nv (s.1 182) (nb s0 b p c its q) := (e80 153 _).trans c2
      rw [ebi]
      by_cases x2 : 100 ≤ nb s0 b p c its q
      · have en : nv (s.1 182) (nb s0 b p c its q) = nb s0 b p c its q := by unfold nv; rw [if_pos (by omega)]
        have hd : nb s0 b p c its q - 100 < s0.1 149 (40 * b + q) := by
          rcases cx.src q0 q1 x1 with ⟨_, u⟩ | ⟨u, _⟩
          · exact u
          · omega
        have ho := W.dO q0 q1
        have hle := Od_le cx (nb s0 b p c its q - 100).toNat (nb s0 b p c its q - 100) (by omega) (by omega)
        have e16 : bdR s 2 (nb s0 b p c its q - 100) = Od s0 b p c (nb s0 b p c its q - 100) := by
          unfold bdR
          rw [show (8 : Int) * 2 + (nb s0 b p c its q - 100) = 16 + (nb s0 b p c its q - 100) by omega]
          exact h4 _ (by omega) (by omega)
        have hf := (h5 (nb s0 b p c its q - 100) (by omega) (by omega)).1
        rw [en, if_neg (show ¬ nb s0 b p c its q < 100 by omega), if_pos x2, e16, if_neg (show ¬ Od s0 b p c (nb s0 b p c its q - 100) < 0 by omega)]
        show s.1 151 (40 * 2 + Od s0 b p c (nb s0 b p c its q - 100)) = s.1 151 (80 + s.1 182 (s0.1 145 (8 * b + (nb s0 b p c its q - 100))))
        rw [e80, hf]
      · rw [if_neg x2]
        rcases cx.src q0 q1 x1 with ⟨u, _⟩ | ⟨u0, ⟨u1, u2, u3⟩, u4⟩
        · exact absurd u x2
        · have en : nv (s.1 182) (nb s0 b p c its q) = s.1 182 (nb s0 b p c its q) := by unfold nv; rw [if_neg (by omega)]
          obtain ⟨⟨d0, d1⟩, d2, d3⟩ := W.dO u1 (show nb s0 b p c its q < s0.1 142 b by omega)
          have nst := (h5 _ d0 d1).2.2.2.2.1 (nb s0 b p c its q) q d2 u2 u3 d3 hq
          have hl40 := i1 (nb s0 b p c its q) u1 (by omega) nst.1
          have eso : bso s 2 (s.1 182 (nb s0 b p c its q)) = ns s0 b p c (nb s0 b p c its q) := (e80 146 _).trans (cont _ u1 (by omega) nst.1).1
          rw [en, if_pos (show s.1 182 (nb s0 b p c its q) < 100 by omega), eso]
          by_cases x4 : s0.1 146 (40 * b + nb s0 b p c its q) = 4
          · obtain ⟨v1, v2, v3⟩ := let0 x1 u0 x4
            have hv := kidf (nb s0 b p c its q) 0 v1.1 v1.2.1 v1.2.2 (by omega) (by rw [v2]; decide)
            rw [if_pos v2, if_pos x4, ebk (nb s0 b p c its q) 0 v1.1 v1.2.1 v1.2.2 (by omega) (by rw [v2]; decide), v3]
            rw [v3] at hv
            rw [if_neg (by omega)]
            show s.1 151 (40 * 2 + s.1 182 (s0.1 152 (3 * (40 * b + nb s0 b p c its q) + 0))) = _
            rw [e80]; rfl
          · have x3 : s0.1 146 (40 * b + nb s0 b p c its q) = 3 := by omega
            have hne : ¬ ns s0 b p c (nb s0 b p c its q) = 4 := by
              have : ns s0 b p c (nb s0 b p c its q) = if nb s0 b p c its q = p then (if c = 2 then 1 else if c = 3 then 0 else if c = 4 then 10 else s0.1 146 (40 * b + nb s0 b p c its q)) else s0.1 146 (40 * b + nb s0 b p c its q) := rfl
              rw [this, x3]
              repeat' split
              all_goals omega
            rw [if_neg hne, if_neg x4, if_pos (by omega)]
    · rw [if_neg x1, if_neg x1]
  · obtain ⟨v1, v2, v3⟩ := let0 x1 x2 x3
    rw [← v3]
    exact kidf (nb s0 b p c its q) 0 v1.1 v1.2.1 v1.2.2 (by omega) (by rw [v2]; decide)
theorem asks_one {s0 sA sB : ST} {b p c w its : Int} (cx : CX s0 b p c w its) (nA : NEW s0 b p c its sA) (nB : NEW s0 b p c its sB) (lA : LV sA 2) (wB : WF sB 2) : ∀ (m : Nat) (q : Int), s0.1 150 (40 * b + q) * 64 + (63 - q) ≤ (m : Int) → 0 ≤ q → q < s0.1 142 b → 0 ≤ sA.1 182 q → 0 ≤ sB.1 182 q → An sA q = An sB q := by
  have W := cx.2.1
  have nn := W.nn
  intro m
  induction m with
  | zero =>
    intro q hm q0 q1 hA hB
    have := W.en q0 q1
    omega
  | succ m ih =>
    intro q hm q0 q1 hA hB
    obtain ⟨a1, a2, a3, a4⟩ := nA.asks cx q0 q1 hA
    obtain ⟨b1, b2, b3, b4⟩ := nB.asks cx q0 q1 hB
    have xA : sA.1 182 q < sA.1 142 2 ∧ sB.1 182 q < sB.1 142 2 := by
      have one : ∀ s, NEW s0 b p c its s → 0 ≤ s.1 182 q → s.1 182 q < s.1 142 2 := by
        intro s h hs
        obtain ⟨⟨d0, d1⟩, d2, d3⟩ := W.dO q0 q1
        have f := (h.2.2.2.2.1 _ d0 d1).2.1 q d2 d3
        have hz := (cx.nz_ge q0 q1).1
        have he := Od_succ (s0 := s0) (b := b) (p := p) (c := c) d0
        have hm := Od_mono cx (s0.1 143 b - (s0.1 149 (40 * b + q) + 1)).toNat (s0.1 149 (40 * b + q) + 1) (by omega) (by omega)
        rw [show s0.1 149 (40 * b + q) + 1 + (((s0.1 143 b - (s0.1 149 (40 * b + q) + 1)).toNat : Nat) : Int) = s0.1 143 b by omega] at hm
        rw [h.1]
        omega
      exact ⟨one sA nA hA, one sB nB hB⟩
    have e1 : sm (fun k => An sA (nk s0 b p c q k)) 0 (ar (ns s0 b p c q)).toNat = sm (fun k => An sB (nk s0 b p c q k)) 0 (ar (ns s0 b p c q)).toNat := by
      refine sm_congr _ (fun k k0 k1 => ?_)
      have har := ar_r (ns s0 b p c q)
      have hk := cx.kid q0 q1 k0 (show k < ar (ns s0 b p c q) by omega)
      exact ih _ (by omega) (by omega) hk.2.2.2.1 (a1 k k0 (by omega)) (b1 k k0 (by omega))
    have e2 : (if ns s0 b p c q = 2 then (if 100 ≤ nb s0 b p c its q then An sA (s0.1 145 (8 * b + (nb s0 b p c its q - 100))) else if s0.1 146 (40 * b + nb s0 b p c its q) = 4 then An sA (s0.1 152 (3 * (40 * b + nb s0 b p c its q) + 0)) else 0) else 0) = (if ns s0 b p c q = 2 then (if 100 ≤ nb s0 b p c its q then An sB (s0.1 145 (8 * b + (nb s0 b p c its q - 100))) else if s0.1 146 (40 * b + nb s0 b p c its q) = 4 then An sB (s0.1 152 (3 * (40 * b + nb s0 b p c its q) + 0)) else 0) else 0) := by
      by_cases x1 : ns s0 b p c q = 2
      · rw [if_pos x1, if_pos x1]
        by_cases x2 : 100 ≤ nb s0 b p c its q
        · rw [if_pos x2, if_pos x2]
          have hd : nb s0 b p c its q - 100 < s0.1 149 (40 * b + q) := by
            rcases cx.src q0 q1 x1 with ⟨_, u⟩ | ⟨u, _⟩
            · exact u
            · omega
          have ho := W.dO q0 q1
          have hr := W.dR (d := nb s0 b p c its q - 100) (by omega) (by omega)
          have hlt : s0.1 150 (40 * b + s0.1 145 (8 * b + (nb s0 b p c its q - 100))) < s0.1 145 (8 * b + s0.1 149 (40 * b + q)) := W.2.1.lt W.1 (show 0 ≤ nb s0 b p c its q - 100 by omega) hd ho.1.2
          have hle := Od_le cx (nb s0 b p c its q - 100).toNat (nb s0 b p c its q - 100) (by omega) (by omega)
          have heq := W.en q0 q1
          have f1 := (nA.2.2.2.2.1 (nb s0 b p c its q - 100) (by omega) (by omega)).1
          have f2 := (nB.2.2.2.2.1 (nb s0 b p c its q - 100) (by omega) (by omega)).1
          exact ih _ (by omega) hr.1 hr.2 (by omega) (by omega)
        · rw [if_neg x2, if_neg x2]
          by_cases x3 : s0.1 146 (40 * b + nb s0 b p c its q) = 4
          · rw [if_pos x3, if_pos x3]
            rcases cx.src q0 q1 x1 with ⟨u, _⟩ | ⟨u0, ⟨u1, u2, u3⟩, u4⟩
            · exact absurd u x2
            · have hl := W.let1 u1 (show nb s0 b p c its q < s0.1 142 b by omega) x3
              have h5 : s0.1 152 (3 * (40 * b + nb s0 b p c its q) + 1) ≤ q := by
                rcases u4 with u4 | u4
                · omega
                · exact u4.2
              have heq := W.en q0 q1
              rw [hl.1] at a4 b4 ⊢
              exact ih _ (by omega) (by omega) hl.2.1 (a4 x1 u0 x3) (b4 x1 u0 x3)
          · rw [if_neg x3, if_neg x3]
      · rw [if_neg x1, if_neg x1]
    have e80 : ∀ (s : ST) (x : Int), s.1 151 (40 * 2 + x) = s.1 151 (80 + x) := fun s x => by rw [show (40 : Int) * 2 + x = 80 + x by omega]
    have h6A : bas sA 2 (sA.1 182 q) < 1000000 → bas sA 2 (sA.1 182 q) = 1 + _ + _ := (lA.1.2.2.2.2.2.1 _ hA xA.1).2.1
    have hle := lA.asle hA xA.1
    have eA : bas sA 2 (sA.1 182 q) = An sA q := e80 sA _
    have eB : bas sB 2 (sB.1 182 q) = An sB q := e80 sB _
    have eA' : sA.1 151 (40 * 2 + sA.1 182 q) = An sA q := e80 sA _
    rw [eA'] at hle
    rw [a2, a3, eA] at h6A
    have h6B := wB.2.2.2.2.2.1 _ hB xA.2
    rw [b2, b3, eB] at h6B
    rw [e1, e2] at h6A
    have hA6 := h6A (by omega)
    by_cases x : An sB q = 1000000
    · have := h6B.2.2 x
      omega
    · have := h6B.2.1 (by omega)
      omega
