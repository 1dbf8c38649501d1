/-! THE REFERENCE: an e written anew: the walk -/
theorem CX.keep {s0 s s' : ST} {b p c w its q o : Int} (cx : CX s0 b p c w its) (q0 : 0 ≤ q) (q1 : q < s0.1 142 b) (h : PO s0 b p c its s q o) (h1 : ∀ r, q ≤ r → r ≤ s0.1 150 (40 * b + q) → s'.1 182 r = s.1 182 r) (h2 : ∀ r, q ≤ r → r ≤ s0.1 150 (40 * b + q) → nv (s'.1 182) (nb s0 b p c its r) = nv (s.1 182) (nb s0 b p c its r)) (h3 : ∀ x, o ≤ x → x < o + nz s0 b p c q → cell6 s s' (80 + x)) : PO s0 b p c its s' q o := by
  have w := cx.2.1
  have he := w.en q0 q1
  refine h.keep h1 he.1 h2 h3 (fun r k r0 r1 k0 k1 => ?_) (fun r r2 r0 r1 r3 => ?_) (fun r r0 r1 => (cx.nz_ge (by omega) (by omega)).1)
  · have := cx.kid (q := r) (by omega) (by omega) k0 k1
    have := w.le q0 q1 r0 r1
    omega
  · have := w.le q0 q1 r0 r1
    omega
theorem TW.step {s s' s'' : ST} {q e o n q' e' o' n' m : Int} (h : TW s s' q e o n) (k : TW s' s'' q' e' o' n') (hq : q ≤ q') (he : e' ≤ e) (ho : o ≤ o') (h1 : m ≤ n) (h2 : m ≤ n') : TW s s'' q e o m := by
  obtain ⟨a1, a2, a3, a4, a5⟩ := h
  obtain ⟨b1, b2, b3, b4, b5⟩ := k
  exact ⟨a1.tr b1, fun x hx => (b2 x hx).trans (a2 x hx), fun z hz => (a3 z hz).tr (b3 z (by omega)), fun r hr => (b4 r (by omega)).trans (a4 r hr), fun i hi => (b5 i (by omega)).trans (a5 i (by omega))⟩
def TRV (s0 : ST) (b p c w its d : Int) (Q : ST → Prop) (q : Int) : Prop := ∀ (s : ST) (n o : Int), SC s0 b c w its s → 1 ≤ n → n + (s0.1 150 (40 * b + q) - q) ≤ 41 → s.1 183 (n - 1) = q → s.1 142 2 = o → 0 ≤ o → o + nz s0 b p c q ≤ 40 → (∀ r, q ≤ r → r ≤ s0.1 150 (40 * b + q) → s.1 182 r = -1) → (∀ r, 0 ≤ r → r < q → q ≤ s0.1 150 (40 * b + r) → 0 ≤ s.1 182 r) →
  (∀ s', TW s s' q (s0.1 150 (40 * b + q)) o (n - 1) → SC s0 b c w its s' → PO s0 b p c its s' q o → s'.1 142 2 = o + nz s0 b p c q → K_X11_change_158 s' p c w d (n - 1) Q) → K_X11_change_158 s p c w d n Q
theorem trv_step {s0 : ST} {b p c w its d q : Int} {Q : ST → Prop} (cx : CX s0 b p c w its) (q0 : 0 ≤ q) (q1 : q < s0.1 142 b) (ih : ∀ q', 0 ≤ q' → q' < s0.1 142 b → s0.1 150 (40 * b + q') - q' < s0.1 150 (40 * b + q) - q → TRV s0 b p c w its d Q q') : TRV s0 b p c w its d Q q := by
  intro s n o sc hn1 hn2 hq ho o0 o40 hneg hanc hQ
  have W := cx.2.1
  have nn := W.nn
  have b01 := cx.1
  have hz := cx.nz_ge q0 q1
  have hzs := cx.nz_sum q0 q1
  have he := W.en q0 q1
  have har := ar_r (ns s0 b p c q)
  have hbnd : ar (ns s0 b p c q) ≤ s0.1 150 (40 * b + q) - q := by
    by_cases e : ar (ns s0 b p c q) = 0
    · omega
    · have := cx.kid q0 q1 (Int.le_refl 0) (show 0 < ar (ns s0 b p c q) by omega)
      omega
  refine k158_pop cx sc ⟨hn1, by omega⟩ hq q0 q1 ⟨by omega, by omega⟩ fun s1 put => ?_
  obtain ⟨m1, u1, u2, u3, ⟨v1, v2, v3, v4, v5⟩, vz⟩ := put
  rw [ho] at u1 u2 v1 v2 v3 v4 v5 vz
  have sc1 : SC s0 b c w its s1 := by
    obtain ⟨g1, g2, g3, g4, g5⟩ := sc
    refine ⟨by rw [m1.f 139 28 (by decide) (by decide)]; exact g1, fun hc => by rw [m1.c 187 (by decide) (by decide)]; exact g2 hc, fun z z0 z1 => by rw [m1.c 152 (by decide) (by decide)]; exact g3 z z0 z1, fun z z0 z1 => by rw [m1.c 150 (by decide) (by decide)]; exact g4 z z0 z1, fun z z0 z1 => ?_⟩
    · obtain ⟨a1, a2, a3, a4, a5, _⟩ := vz z (by omega)
      rw [a1, a2, a3, a4, a5]
      exact g5 z z0 z1
  have eA : F_X11_kidsOf s1 (s1.1 146 (80 + s1.1 182 q)) = ar (ns s0 b p c q) := by rw [u2, v1]; rfl
  refine s_X11_change_197 ?_
  (repeat' (with_reducible first | refine ⟨?_, ?_⟩ | intro _))
  all_goals first | omega | skip
  rw [eA]
  refine k219 cx q0 q1 (ar (ns s0 b p c q)).toNat s1 (n - 1) (ar (ns s0 b p c q) - 1) (by omega) (by omega) (by omega) (by omega) sc1 fun sA mA iA kA => ?_
  rw [show n - 1 + (ar (ns s0 b p c q) - 1 + 1) = n - 1 + (((ar (ns s0 b p c q)).toNat : Nat) : Int) by omega]
  -- what stands when the e's have been piled
  have twA : TW s sA q (s0.1 150 (40 * b + q)) o (n - 1) := by
    refine ⟨(m1.mono (fs' := [(142, 2)]) (cs' := [142, 146, 147, 148, 149, 153, 154, 155, 158, 182, 183]) (by decide) (by decide)).tr (mA.mono (by decide) (by decide)) |>.mono (by decide) (by decide), fun x hx => ?_, fun z hz => ?_, fun r hr => ?_, fun i hi => ?_⟩
    · rw [mA.c 142 (by decide) (by decide)]
      refine (m1 142 x (fun h => ?_) (by decide)).1
      simp only [List.mem_cons, List.not_mem_nil, or_false, Prod.mk.injEq, true_and] at h
      exact hx h
    · obtain ⟨a1, a2, a3, a4, a5, a6⟩ := vz z (by omega)
      refine ⟨?_, ?_, ?_, ?_, ?_, ?_⟩
      · rw [mA.c 146 (by decide) (by decide)]; exact a1
      · rw [mA.c 149 (by decide) (by decide)]; exact a2
      · rw [mA.c 153 (by decide) (by decide)]; exact a3
      · rw [mA.c 154 (by decide) (by decide)]; exact a4
      · rw [mA.c 155 (by decide) (by decide)]; exact a5
      · rw [mA.cj 158 (by decide) (by decide)]; exact a6
    · rw [mA.c 182 (by decide) (by decide)]; exact u3 r (by omega)
    · rw [iA i hi, m1.c 183 (by decide) (by decide)]
  have scA := sc.tw b01.2 twA o0
  have fA : sA.1 182 q = o := by rw [mA.c 182 (by decide) (by decide)]; exact u2
  have nA : ∀ r, q < r → r ≤ s0.1 150 (40 * b + q) → sA.1 182 r = -1 := fun r r0 r1 => by rw [mA.c 182 (by decide) (by decide), u3 r (by omega)]; exact hneg r (by omega) r1
  have cA : sA.1 146 (80 + o) = ns s0 b p c q ∧ sA.1 149 (80 + o) = s0.1 149 (40 * b + q) ∧ sA.1 154 (80 + o) = s0.1 154 (40 * b + q) ∧ sA.1 155 (80 + o) = s0.1 155 (40 * b + q) ∧ sA.1 153 (80 + o) = nv (s.1 182) (nb s0 b p c its q) := by
    rw [mA.c 146 (by decide) (by decide), mA.c 149 (by decide) (by decide), mA.c 153 (by decide) (by decide), mA.c 154 (by decide) (by decide), mA.c 155 (by decide) (by decide)]
    exact ⟨v1, v2, v3, v4, v5⟩
  have oA : sA.1 142 2 = o + 1 := by rw [mA.c 142 (by decide) (by decide)]; exact u1
  have kids : ∀ (r : Nat) (s2 : ST) (j : Int), j + r = ar (ns s0 b p c q) → 0 ≤ j → TW sA s2 (q + 1) (s0.1 150 (40 * b + q)) (o + 1) (n - 1 + r) → SC s0 b c w its s2 → s2.1 142 2 = o + 1 + n2 s0 b p c q j.toNat → (∀ i, 0 ≤ i → i < j → PO s0 b p c its s2 (nk s0 b p c q i) (o + 1 + n2 s0 b p c q i.toNat)) → (∀ x, q < x → x ≤ s0.1 150 (40 * b + q) → (∀ i, 0 ≤ i → i < j → ¬ (nk s0 b p c q i ≤ x ∧ x ≤ s0.1 150 (40 * b + nk s0 b p c q i))) → s2.1 182 x = -1) → K_X11_change_158 s2 p c w d (n - 1 + r) Q := by
    intro r
    induction r with
    | zero =>
      intro s2 j hj j0 tw2 sc2 h142 hpo hno
      obtain rfl : j = ar (ns s0 b p c q) := by omega
      rw [show n - 1 + ((0 : Nat) : Int) = n - 1 by omega] at tw2 ⊢
      have f2 : s2.1 182 q = o := by rw [tw2.2.2.2.1 q (by omega)]; exact fA
      have inn : ∀ x, q < x → x ≤ s0.1 150 (40 * b + q) → 0 ≤ s2.1 182 x → ∃ i, (0 ≤ i ∧ i < ar (ns s0 b p c q)) ∧ nk s0 b p c q i ≤ x ∧ x ≤ s0.1 150 (40 * b + nk s0 b p c q i) := by
        intro x x0 x1 hx
        refine Classical.byContradiction fun hc => ?_
        have := hno x x0 x1 (fun i i0 i1 h => hc ⟨i, ⟨i0, i1⟩, h⟩)
        omega
      have mono : ∀ i, 0 ≤ i → i < ar (ns s0 b p c q) → 0 ≤ n2 s0 b p c q i.toNat ∧ n2 s0 b p c q i.toNat + nz s0 b p c (nk s0 b p c q i) ≤ n2 s0 b p c q (ar (ns s0 b p c q)).toNat := by
        intro i i0 i1
        have h1 := n2_succ (s0 := s0) (b := b) (p := p) (c := c) q i.toNat
        rw [show ((i.toNat : Nat) : Int) = i by omega] at h1
        have h2 := n2_mono cx q0 q1 ((ar (ns s0 b p c q)).toNat - (i.toNat + 1)) (i.toNat + 1) (by omega)
        rw [show i.toNat + 1 + ((ar (ns s0 b p c q)).toNat - (i.toNat + 1)) = (ar (ns s0 b p c q)).toNat by omega] at h2
        have h3 := n2_mono cx q0 q1 i.toNat 0 (by omega)
        rw [Nat.zero_add] at h3
        have h4 : n2 s0 b p c q 0 = 0 := rfl
        omega
      refine hQ s2 (twA.step tw2 (by omega) (by omega) (by omega) (by omega) (by omega)) sc2 ⟨f2, fun r r0 r1 => ?_, fun r k r0 r1 hr k0 k1 => ?_, fun x x0 x1 => ?_, fun r1 r2 h1 h2 h3 h4 h5 => ?_, fun r r0 r1 hr => ?_, fun r1 r2 b1 b2 b3 b4 f0 fe => ?_⟩ (by rw [h142, hzs]; omega)
      · by_cases e : r = q
        · rw [e, f2]; exact Or.inr ⟨by omega, by omega⟩
        · by_cases hr : 0 ≤ s2.1 182 r
          · obtain ⟨i, ⟨i0, i1⟩, i2, i3⟩ := inn r (by omega) r1 hr
            have h1 := (hpo i i0 i1).2.1 r i2 i3
            have h2 := mono i i0 i1
            omega
          · refine Or.inl ?_
            refine Classical.byContradiction fun hc => ?_
            have hx : ∃ i, (0 ≤ i ∧ i < ar (ns s0 b p c q)) ∧ nk s0 b p c q i ≤ r ∧ r ≤ s0.1 150 (40 * b + nk s0 b p c q i) := by
              refine Classical.byContradiction fun hcc => hc (hno r (by omega) r1 (fun i i0 i1 h => hcc ⟨i, ⟨i0, i1⟩, h⟩))
            obtain ⟨i, ⟨i0, i1⟩, i2, i3⟩ := hx
            have h1 := (hpo i i0 i1).2.1 r i2 i3
            have h2 := mono i i0 i1
            omega
      · by_cases e : r = q
        · rw [e] at k1 ⊢
          rw [f2, (hpo k k0 k1).1]
        · obtain ⟨i, ⟨i0, i1⟩, i2, i3⟩ := inn r (by omega) r1 hr
          exact (hpo i i0 i1).2.2.1 r k i2 i3 hr k0 k1
      · by_cases e : x = o
        · exact ⟨q, ⟨by omega, he.1⟩, by rw [f2, e]⟩
        · obtain ⟨k, k1, k2, k3⟩ := n2_find cx q0 q1 (ar (ns s0 b p c q)).toNat (x - (o + 1)) (by omega) (by omega) (by omega)
          have hp := hpo (k : Int) (by omega) (by omega)
          rw [Int.toNat_natCast] at hp
          obtain ⟨r, ⟨r0, r1⟩, hr⟩ := hp.2.2.2.1 x (by omega) (by omega)
          have hk := cx.kid q0 q1 (k := (k : Int)) (by omega) (by omega)
          exact ⟨r, ⟨by omega, by omega⟩, hr⟩
      · have h6 := W.le q0 q1 h1 h4
        obtain ⟨i, ⟨i0, i1⟩, i2, i3⟩ := inn r2 (by omega) (by omega) h5
        have hm := mono i i0 i1
        by_cases e : r1 = q
        · rw [e, f2]
          have h7 := (hpo i i0 i1).2.1 r2 i2 i3
          have h8 := (cx.nz_ge (q := r2) (by omega) (by omega)).1
          omega
        · have hk := cx.kid q0 q1 i0 i1
          have npc : ¬ (q = p ∧ c = 4) := by
            intro h
            rcases cx.ar_ns q with ⟨_, _, h7⟩ | ⟨_, h7⟩
            · omega
            · exact h7 h
          obtain ⟨i', j0', j1', j2', j3'⟩ := cx.part q0 q1 npc (show q < r1 by omega) h4
          have hk' := cx.kid q0 q1 j0' j1'
          have h7 := W.le (q := nk s0 b p c q i') (by omega) hk'.2.2.2.1 j2' j3'
          by_cases ei : i' = i
          · rw [ei] at j2' j3'
            exact (hpo i i0 i1).2.2.2.2.1 r1 r2 j2' h2 h3 j3' h5
          · have := cx.apart q0 q1 j0' j1' i0 i1 ei
            omega
      · by_cases e : r = q
        · rw [e, f2]
          obtain ⟨c1, c2, c3, c4, c5⟩ := cA
          obtain ⟨d1, d2, d3, d4, d5, _⟩ := tw2.2.2.1 (80 + o) (Or.inl (by omega))
          rw [d1, d2, d3, d4, d5]
          refine ⟨c1, c2, c3, c4, ?_⟩
          rw [c5]
          rcases cx.nb_ok q0 q1 with h | h | h
          · unfold nv; rw [if_pos (Or.inl h), if_pos (Or.inl h)]
          · unfold nv; rw [if_pos (Or.inr h), if_pos (Or.inr h)]
          · unfold nv
            rw [tw2.2.2.2.1 (nb s0 b p c its q) (by omega), twA.2.2.2.1 (nb s0 b p c its q) (by omega)]
        · obtain ⟨i, ⟨i0, i1⟩, i2, i3⟩ := inn r (by omega) r1 hr
          exact (hpo i i0 i1).2.2.2.2.2.1 r i2 i3 hr
      · -- no two places come to lie at one
        have at1 : ∀ x, q ≤ x → x ≤ s0.1 150 (40 * b + q) → 0 ≤ s2.1 182 x → x = q ∧ s2.1 182 x = o ∨ ∃ i, (0 ≤ i ∧ i < ar (ns s0 b p c q)) ∧ (nk s0 b p c q i ≤ x ∧ x ≤ s0.1 150 (40 * b + nk s0 b p c q i)) ∧ o + 1 + n2 s0 b p c q i.toNat ≤ s2.1 182 x ∧ s2.1 182 x < o + 1 + n2 s0 b p c q i.toNat + nz s0 b p c (nk s0 b p c q i) := by
          intro x x0 x1 hx
          by_cases e : x = q
          · exact Or.inl ⟨e, by rw [e]; exact f2⟩
          · obtain ⟨i, ⟨i0, i1⟩, i2, i3⟩ := inn x (by omega) x1 hx
            have h1 := (hpo i i0 i1).2.1 x i2 i3
            have h2 := (cx.nz_ge (q := x) (by omega) (by omega)).1
            exact Or.inr ⟨i, ⟨i0, i1⟩, ⟨i2, i3⟩, by omega, by omega⟩
        have sep : ∀ i i', 0 ≤ i → i < i' → i' < ar (ns s0 b p c q) → n2 s0 b p c q i.toNat + nz s0 b p c (nk s0 b p c q i) ≤ n2 s0 b p c q i'.toNat := by
          intro i i' i0 h1 h2
          have h3 := n2_succ (s0 := s0) (b := b) (p := p) (c := c) q i.toNat
          rw [show ((i.toNat : Nat) : Int) = i by omega] at h3
          have h4 := n2_mono cx q0 q1 (i'.toNat - (i.toNat + 1)) (i.toNat + 1) (by omega)
          rw [show i.toNat + 1 + (i'.toNat - (i.toNat + 1)) = i'.toNat by omega] at h4
          omega
        rcases at1 r1 b1 b2 f0 with ⟨e1, e2⟩ | ⟨i, ⟨i0, i1⟩, ⟨i2, i3⟩, i4, i5⟩
        · rcases at1 r2 b3 b4 (by omega) with ⟨e3, e4⟩ | ⟨i', ⟨j0, j1⟩, ⟨j2, j3⟩, j4, j5⟩
          · rw [e1, e3]
          · have := (mono i' j0 j1).1; omega
        · rcases at1 r2 b3 b4 (by omega) with ⟨e3, e4⟩ | ⟨i', ⟨j0, j1⟩, ⟨j2, j3⟩, j4, j5⟩
          · have := (mono i i0 i1).1; omega
          · by_cases ei : i = i'
            · rw [← ei] at j2 j3
              exact (hpo i i0 i1).2.2.2.2.2.2 r1 r2 i2 i3 j2 j3 f0 fe
            · by_cases lt : i < i'
              · have := sep i i' i0 lt j1; omega
              · have := sep i' i j0 (by omega) i1; omega
    | succ r ihr =>
      intro s2 j hj j0 tw2 sc2 h142 hpo hno
      have j1 : j < ar (ns s0 b p c q) := by omega
      have hk := cx.kid q0 q1 j0 j1
      have hm1 := n2_succ (s0 := s0) (b := b) (p := p) (c := c) q j.toNat
      rw [show ((j.toNat : Nat) : Int) = j by omega] at hm1
      have hm2 := n2_mono cx q0 q1 ((ar (ns s0 b p c q)).toNat - (j.toNat + 1)) (j.toNat + 1) (by omega)
      rw [show j.toNat + 1 + ((ar (ns s0 b p c q)).toNat - (j.toNat + 1)) = (ar (ns s0 b p c q)).toNat by omega] at hm2
      have hm3 := n2_mono cx q0 q1 j.toNat 0 (by omega)
      rw [Nat.zero_add] at hm3
      have hm4 : n2 s0 b p c q 0 = 0 := rfl
      have top : s2.1 183 (n - 1 + ((r + 1 : Nat) : Int) - 1) = nk s0 b p c q j := by
        rw [tw2.2.2.2.2 _ (by omega)]
        have := kA j j0 (by omega)
        rw [show n - 1 + (ar (ns s0 b p c q) - 1) - j = n - 1 + ((r + 1 : Nat) : Int) - 1 by omega] at this
        exact this
      have outk : ∀ i, 0 ≤ i → i < j → s0.1 150 (40 * b + nk s0 b p c q i) < nk s0 b p c q j ∨ s0.1 150 (40 * b + nk s0 b p c q j) < nk s0 b p c q i := fun i i0 i1 => cx.apart q0 q1 i0 (by omega) j0 j1 (by omega)
      refine ih (nk s0 b p c q j) (by omega) hk.2.2.2.1 (by omega) s2 (n - 1 + ((r + 1 : Nat) : Int)) (o + 1 + n2 s0 b p c q j.toNat) sc2 (by omega) (by omega) top h142 (by omega) (by omega) (fun x x0 x1 => ?_) (fun x x0 x1 x2 => ?_) (fun s3 tw3 sc3 po3 h3 => ?_)
      · refine hno x (by omega) (by omega) (fun i i0 i1 h => ?_)
        have := outk i i0 i1
        omega
      · by_cases e : x ≤ q
        · rw [tw2.2.2.2.1 x (by omega)]
          by_cases e2 : x = q
          · rw [e2, fA]; exact o0
          · rw [twA.2.2.2.1 x (by omega)]
            exact hanc x x0 (by omega) (by omega)
        · exfalso
          have npc : ¬ (q = p ∧ c = 4) := by
            intro h
            rcases cx.ar_ns q with ⟨_, _, h7⟩ | ⟨_, h7⟩
            · omega
            · exact h7 h
          obtain ⟨i', j0', j1', j2', j3'⟩ := cx.part q0 q1 npc (show q < x by omega) (by omega)
          have hk' := cx.kid q0 q1 j0' j1'
          have h7 := W.le (q := nk s0 b p c q i') (by omega) hk'.2.2.2.1 j2' j3'
          by_cases ei : i' = j
          · rw [ei] at j2'; omega
          · have := cx.apart q0 q1 j0' j1' j0 j1 ei
            omega
      · rw [show n - 1 + ((r + 1 : Nat) : Int) - 1 = n - 1 + (r : Int) by omega] at tw3 ⊢
        refine ihr s3 (j + 1) (by omega) (by omega) (tw2.step tw3 (by omega) (by omega) (by omega) (by omega) (by omega)) sc3 ?_ (fun i i0 i1 => ?_) (fun x x0 x1 hx => ?_)
        · rw [h3, show (j + 1).toNat = j.toNat + 1 by omega]; omega
        · by_cases e : i = j
          · rw [e]; exact po3
          · have hki := cx.kid q0 q1 (k := i) i0 (by omega)
            have ho := outk i i0 (by omega)
            have hmi1 := n2_succ (s0 := s0) (b := b) (p := p) (c := c) q i.toNat
            rw [show ((i.toNat : Nat) : Int) = i by omega] at hmi1
            have hmi2 := n2_mono cx q0 q1 (j.toNat - (i.toNat + 1)) (i.toNat + 1) (by omega)
            rw [show i.toNat + 1 + (j.toNat - (i.toNat + 1)) = j.toNat by omega] at hmi2
            refine cx.keep (by omega) hki.2.2.2.1 (hpo i i0 (by omega)) (fun y y0 y1 => tw3.2.2.2.1 y (by omega)) (fun y y0 y1 => ?_) (fun x x0 x1 => tw3.2.2.1 (80 + x) (Or.inl (by omega)))
            rcases cx.nb_ok (q := y) (by omega) (by omega) with h | h | h
            · unfold nv; rw [if_pos (Or.inl h), if_pos (Or.inl h)]
            · unfold nv; rw [if_pos (Or.inr h), if_pos (Or.inr h)]
            · unfold nv
              rw [tw3.2.2.2.1 (nb s0 b p c its y) ?_]
              by_cases g1 : nb s0 b p c its y < nk s0 b p c q j
              · exact Or.inl g1
              · by_cases g2 : s0.1 150 (40 * b + nk s0 b p c q j) < nb s0 b p c its y
                · exact Or.inr g2
                · exfalso
                  have h7 := W.le (q := nk s0 b p c q j) (p := nb s0 b p c its y) (by omega) hk.2.2.2.1 (by omega) (by omega)
                  omega
        · rw [tw3.2.2.2.1 x ?_]
          · exact hno x x0 x1 (fun i i0 i1 => hx i i0 (by omega))
          · have := hx j j0 (by omega)
            omega
  exact kids (ar (ns s0 b p c q)).toNat sA 0 (by omega) (by omega) ⟨md.rf, fun _ _ => rfl, fun _ _ => ⟨rfl, rfl, rfl, rfl, rfl, rfl⟩, fun _ _ => rfl, fun _ _ => rfl⟩ scA (by rw [oA]; show o + 1 = o + 1 + 0; omega) (fun i _ _ => by omega) (fun x x0 x1 _ => nA x x0 x1)
theorem trv {s0 : ST} {b p c w its d : Int} {Q : ST → Prop} (cx : CX s0 b p c w its) : ∀ (m : Nat) (q : Int), s0.1 150 (40 * b + q) - q < (m : Int) → 0 ≤ q → q < s0.1 142 b → TRV s0 b p c w its d Q q := by
  intro m
  induction m with
  | zero =>
    intro q hm q0 q1
    have := cx.2.1.en q0 q1
    omega
  | succ m ih =>
    intro q hm q0 q1
    exact trv_step cx q0 q1 (fun q' a0 a1 a2 => ih q' (by omega) a0 a1)
