/-! READING ALIKE: climbing, side by side (2) -/
section WAIT2
variable {s0 x0 x : ST} {st : Int → Int} {n R : Int} {nD : Nat}
theorem m_wait {Q : ST → Int → Prop} (W : WOUT s0 x0 x st n R nD Q) : ∀ (k : Nat) (a3 : Int), CSI s0 x (k + 1) st n R nD → SRT x (k + 1) st → ar (x.1 21 (st k)) ≤ x.1 48 (st k) → (0 ≤ a3 ∧ a3 + k ≤ 30) → (∀ m0 b QR, BEGR x0 m0 b 0 (fun _ => 0) R R nD → (∀ m, RM b m0 m → BEGR x m b (k + 1) st n R nD → K_X11_readE_7 m 0 QR) → K_X11_readE_7 m0 1 QR) → K_X7_nextWaiting_4 x (st k) a3 Q := by
  intro k
  induction k with
  | zero =>
    intro a3 cs sr hc ha adv
    have hc : ar (x.1 21 (st 0)) ≤ x.1 48 (st 0) := hc
    obtain ⟨⟨kz, px, f0⟩, ⟨c1, c2⟩, ⟨c3, c4⟩, c5, ⟨c6, c7⟩, c8⟩ := id cs
    obtain ⟨d1, d2, d3, d4, d5, d6⟩ := c7 0 (by omega) (by omega)
    have har := arity_ar (x := x) (p := st 0) (by omega) (sr 0 (by omega) (by omega))
    have hpa := parent_26 (x := x) (p := st 0) (by omega)
    rw [if_pos rfl] at d2
    have fin : K_X7_nextWaiting_4 x (-1) (a3 + 1) Q := by
      refine s_X7_nextWaiting_4 fun _ _ _ => ⟨fun h => by omega, fun _ => ⟨fun _ => ?_, fun h => by omega⟩⟩
      refine W.1 x md.rf cs.pop (cs.2.2.2.2.2.2.2.1 (by omega)) fun m0 b QR b0 hm => adv m0 b QR b0 fun m rm B => ?_
      obtain ⟨h1, ⟨h2, h3, h4, h5, h6⟩, h7, h8, h9, h10, h11, h12⟩ := id B
      have s12 := h12 0 (by omega) (by omega)
      rw [if_pos (by omega)] at s12
      have t46 := (h9 (st 0) (by omega) (by omega)).1
      have hcm : ar (m.1 146 (40 * b + st 0)) ≤ m.1 160 0 := by rw [← t46]; omega
      refine r_7 (k := 1) h1.2.2.2.1 (by rw [h4]) (fun h => by omega) (fun _ => ?_)
      refine r_ends (m := 1) (n := n) (R := R) (nD := nD) h8 h2 h3 h4 h5 h6 h1.2.1 (by omega) (by rw [show (1 : Int) - 1 = 0 by omega, s12.1]; exact hcm) (fun _ m2 mm rm2 rd2 h32 pop rp hben hRn => ?_) (fun h => by omega)
      rw [show (1 : Int) - 1 = 0 by omega, s12.1] at pop
      have B2 := pop_m (k := 0) B cs.2.2.2.2.1 hcm mm h32 pop rp
      intro _
      refine r_7 (k := 0) B2.1.2.2.2.1 h32 (fun _ => hm m2 (rm.tr rm2) B2 hben) (fun h => by omega)
    show K_X7_nextWaiting_4 x (st 0) a3 Q
    refine s_X7_nextWaiting_4 ?_
    rw [har, hpa, d2]
    (repeat' (with_reducible first | refine ⟨?_, ?_⟩ | intro _))
    all_goals first | omega | exact P_arity _ _ _ | exact P_parent _ _ _ | exact fin | (exfalso; revert hc; show ¬ ar (x.1 21 (st 0)) ≤ x.1 48 (st 0); omega)
  | succ k ih =>
    intro a3 cs sr hc ha adv
    obtain ⟨⟨kz, px, f0⟩, ⟨c1, c2⟩, ⟨c3, c4⟩, c5, ⟨c6, c7⟩, c8⟩ := id cs
    obtain ⟨d1, d2, d3, d4, d5, d6⟩ := c7 ((k + 1 : Nat) : Int) (by omega) (by omega)
    obtain ⟨g1, g2, g3, g4, g5, g6⟩ := c7 (k : Int) (by omega) (by omega)
    have har := arity_ar (x := x) (p := st ((k + 1 : Nat) : Int)) (by omega) (sr _ (by omega) (by omega))
    have hpa := parent_26 (x := x) (p := st ((k + 1 : Nat) : Int)) (by omega)
    rw [if_neg (by omega), show (((k + 1 : Nat) : Int) - 1) = (k : Int) by omega] at d2
    have har2 := arity_ar (x := x) (p := st k) (by omega) (sr _ (by omega) (by omega))
    have hsk := sr (k : Int) (by omega) (by omega)
    have cs' := cs.pop
    have sr' : SRT x (k + 1) st := fun i i0 i1 => sr i i0 (by omega)
    have adv1 : ∀ m0 b QR, BEGR x0 m0 b 0 (fun _ => 0) R R nD → (∀ m, RM b m0 m → BEGR x m b (k + 1) st n R nD → (¬ (x.1 21 (st k) = 4 ∧ x.1 48 (st k) = 1) → K_X11_endsPlace_190 m (40 * b + st k) (fun s1 v1 => (v1 = 0 ∨ v1 = 1) → K_X11_readE_7 s1 v1 QR)) ∧ ((x.1 21 (st k) = 4 ∧ x.1 48 (st k) = 1) → C_X11_must m (F_X11_isWord m 26990) (fun s21 => K_X11_endsPlace_190 s21 (40 * b + st k) (fun s1 v1 => (v1 = 0 ∨ v1 = 1) → K_X11_readE_7 s1 v1 QR)))) → K_X11_readE_7 m0 1 QR := by
      intro m0 b QR b0 hm
      refine adv m0 b QR b0 fun m rm B => ?_
      obtain ⟨h1, ⟨h2, h3, h4, h5, h6⟩, h7, h8, h9, h10, h11, h12⟩ := id B
      have s12 := h12 ((k + 1 : Nat) : Int) (by omega) (by omega)
      rw [if_pos (by omega)] at s12
      have s12k := h12 (k : Int) (by omega) (by omega)
      rw [if_neg (by omega)] at s12k
      have t46 := (h9 (st ((k + 1 : Nat) : Int)) (by omega) (by omega)).1
      have t46k := (h9 (st k) (by omega) (by omega)).1
      have hcm : ar (m.1 146 (40 * b + st ((k + 1 : Nat) : Int))) ≤ m.1 160 ((k + 1 : Nat) : Int) := by rw [← t46]; omega
      refine r_7 (k := k + 1 + 1) h1.2.2.2.1 h4 (fun h => by omega) (fun _ => ?_)
      refine r_ends (m := ((k + 1 + 1 : Nat) : Int)) (n := n) (R := R) (nD := nD) h8 h2 h3 h4 h5 h6 h1.2.1 (by omega) (by rw [show (((k + 1 + 1 : Nat) : Int) - 1) = ((k + 1 : Nat) : Int) by omega, s12.1]; exact hcm) (fun h => by omega) (fun _ m2 mm rm2 rd2 h32 pop rp => ?_)
      rw [show (((k + 1 + 1 : Nat) : Int) - 1) = ((k + 1 : Nat) : Int) by omega] at pop rp h32
      rw [s12.1] at pop
      have B2 := pop_m (k := k + 1) B cs.2.2.2.2.1 hcm mm h32 pop rp
      rw [show (((k + 1 + 1 : Nat) : Int) - 2) = (k : Int) by omega, s12k.1, ← t46k]
      obtain ⟨hm1, hm2⟩ := hm m2 (rm.tr rm2) B2
      exact ⟨fun h => hm1 (by omega), fun h => hm2 (by omega)⟩
    have r190 : ∀ m b QR, BEGR x m b (k + 1) st n R nD → (ar (x.1 21 (st k)) ≤ x.1 48 (st k) → K_X11_readE_7 m 0 QR) → (x.1 48 (st k) < ar (x.1 21 (st k)) → K_X11_readE_7 m 1 QR) → K_X11_endsPlace_190 m (40 * b + st k) (fun s1 v1 => (v1 = 0 ∨ v1 = 1) → K_X11_readE_7 s1 v1 QR) := by
      intro m b QR B q0 q1
      obtain ⟨h1, ⟨h2, h3, h4, h5, h6⟩, h7, h8, h9, h10, h11, h12⟩ := id B
      have s12k := h12 (k : Int) (by omega) (by omega)
      rw [if_pos (by omega)] at s12k
      have t46k := (h9 (st k) (by omega) (by omega)).1
      refine r_190 (h := ((k + 1 : Nat) : Int)) h4 (by omega) (by omega) (fun h => fun _ => q0 ?_) (fun h => fun _ => q1 ?_)
      · rw [show (((k + 1 : Nat) : Int) - 1) = (k : Int) by omega, ← t46k] at h; omega
      · rw [show (((k + 1 : Nat) : Int) - 1) = (k : Int) by omega, ← t46k] at h; omega
    have nxt : K_X7_nextWaiting_4 x (st k) (a3 + 1) Q := by
      by_cases hw : ar (x.1 21 (st k)) ≤ x.1 48 (st k)
      · have hn4 : ¬ (x.1 21 (st k) = 4 ∧ x.1 48 (st k) = 1) := by
          rintro ⟨h4, h1⟩
          rw [h4, h1] at hw
          exact absurd hw (by decide)
        exact ih (a3 + 1) cs' sr' hw (by omega) fun m0 b QR b0 hm => adv1 m0 b QR b0 fun m rm B => ⟨fun _ => r190 m b QR B (fun _ => hm m rm B) (fun h => by omega), fun h => absurd h hn4⟩
      · have hw' : x.1 48 (st k) < ar (x.1 21 (st k)) := by omega
        by_cases hl : x.1 21 (st k) = 4 ∧ x.1 48 (st k) = 1
        · -- 'in' must stand here
          have k73 : ∀ s t0, K_X7_nextWaiting_73 s (st k) t0 Q ↔ K_X7_nextWaiting_73 s (st k) t0 Q := fun _ _ => Iff.rfl
          have kin : C_X7_readIn x (fun s8 v8 => (v8 = 0 ∨ v8 = 1) → ((v8 = 0 → K_X7_nextWaiting_73 s8 (st k) 0 Q) ∧ (¬ v8 = 0 → K_X7_nextWaiting_68 s8 (st k) Q))) := by
            refine s_X7_readIn fun _ => ⟨fun hin => ?_, fun hin => ?_⟩
            · refine m_token kz px.1 fun x' mx kz' px' sim => fun _ => ⟨fun h => absurd h (by decide), fun _ => s_X7_nextWaiting_68 fun _ _ => s_X7_nextWaiting_73 fun _ _ _ => ⟨fun h => absurd h (by decide), fun _ => ?_⟩⟩
              have cs2 := cs'.keepx mx kz' px'
              have e := md46 mx (by decide)
              refine W.2.1 k x' mx cs2 (fun i i0 i1 => by rw [(e 21 (by decide) _).1]; exact sr' i i0 i1) (by rw [(e 48 (by decide) _).1, (e 21 (by decide) _).1]; exact hw') fun m0 b QR b0 hm => adv1 m0 b QR b0 fun m rm B => ⟨fun h => absurd hl h, fun _ => ?_⟩
              refine m_must B.1.2.2.2.1 (fun _ => ?_) (fun h => absurd h (B.1.isin.mp hin))
              refine sim m _ B.1.1 B.1.2.1.2.2 B.1.2.2.1.2.1 fun m' mm rd tx tk => ?_
              have B2 := B.keepx mx mm rd tx tk
              obtain ⟨h1, ⟨h2, h3, h4, h5, h6⟩, h7, h8, h9, h10, h11, h12⟩ := id B2
              have s12k := h12 (k : Int) (by omega) (by omega)
              rw [if_pos (by omega), (e 48 (by decide) _).1] at s12k
              have t46k := (h9 (st k) (by omega) (by omega)).1
              rw [(e 21 (by decide) _).1] at t46k
              refine r_190 (h := ((k + 1 : Nat) : Int)) h4 (by omega) (by omega) (fun h => ?_) (fun h => fun _ => hm m' (rm.tr (RM.md mm (by decide))) B2)
              rw [show (((k + 1 : Nat) : Int) - 1) = (k : Int) by omega, ← t46k] at h; omega
            · refine m_refuse (fun _ => ⟨fun _ => s_X7_nextWaiting_73 fun _ _ _ => ⟨fun _ => ?_, fun h => absurd rfl h⟩, fun h => absurd rfl h⟩)
              refine W.2.2 _ (FIS_md.mono (by decide) (by decide)) (kz.m46 FIS_md (by decide)) px (by rw [FIS_0]; split <;> omega) fun m0 b QR b0 hm => adv1 m0 b QR b0 fun m rm B => ⟨fun h => absurd hl h, fun _ => ?_⟩
              refine m_must B.1.2.2.2.1 (fun h => absurd (B.1.isin.mpr h) hin) (fun _ => ?_)
              refine m_misplaced (x := x) B.1.2.2.1 B.1.2.2.2.1 fun m' mm er => ?_
              have h32 : m'.1 139 32 = ((k + 1 : Nat) : Int) := (mm.f 139 32 (by decide) (by decide)).trans B.2.1.2.2.1
              have he : m'.1 139 4 ≠ 0 := fun h => er.1 (er.2.1.symm.trans h)
              have hb := B.2.1.1
              have hh := hm m' (rm.tr (RM.md mm (by decide))) ((mm.c 143 (by decide) (by decide) b).trans B.2.1.2.2.2.2) er
              exact r_190 (h := ((k + 1 : Nat) : Int)) h32 (by omega) (by omega) (fun _ => fun _ => r_7e he hh) (fun _ => fun _ => r_7e he hh)
          refine s_X7_nextWaiting_4 ?_
          rw [har2]
          (repeat' (with_reducible first | refine ⟨?_, ?_⟩ | intro _))
          all_goals first | omega | exact P_arity _ _ _ | exact P_parent _ _ _ | exact kin
        · have k68 : K_X7_nextWaiting_68 x (st k) Q := by
            refine s_X7_nextWaiting_68 fun _ _ => s_X7_nextWaiting_73 fun _ _ _ => ⟨fun h => absurd h (by decide), fun _ => ?_⟩
            exact W.2.1 k x md.rf cs' sr' hw' fun m0 b QR b0 hm => adv1 m0 b QR b0 fun m rm B => ⟨fun _ => r190 m b QR B (fun h => by omega) (fun _ => hm m rm B), fun h => absurd h hl⟩
          refine s_X7_nextWaiting_4 ?_
          rw [har2]
          (repeat' (with_reducible first | refine ⟨?_, ?_⟩ | intro _))
          all_goals first | omega | exact P_arity _ _ _ | exact P_parent _ _ _ | exact k68 | skip
    refine s_X7_nextWaiting_4 ?_
    rw [har, hpa]
    (repeat' (with_reducible first | refine ⟨?_, ?_⟩ | intro _))
    all_goals first | omega | exact P_arity _ _ _ | exact P_parent _ _ _ | (rw [d2]; exact nxt) | skip
end WAIT2
