/-! READING ALIKE: climbing, side by side -/
def SRT (x : ST) (k : Nat) (st : Int → Int) : Prop := ∀ i : Int, 0 ≤ i → i < k → 0 ≤ x.1 21 (st i) ∧ x.1 21 (st i) ≤ 16
section WAIT
variable {s0 x0 : ST} {st : Int → Int} {n R : Int} {nD : Nat}
theorem r_190 {m : ST} {g h : Int} {Q : ST → Int → Prop} (h32 : m.1 139 32 = h) (hh : 1 ≤ h ∧ h ≤ 21) (hg : 0 ≤ g ∧ g < 240) (q0 : ar (m.1 146 g) ≤ m.1 160 (h - 1) → Q m 0) (q1 : m.1 160 (h - 1) < ar (m.1 146 g) → Q m 1) : K_X11_endsPlace_190 m g Q := by
  refine s_X11_endsPlace_190 ?_
  rw [h32]
  simp only [ar_F]
  (repeat' (with_reducible first | refine ⟨?_, ?_⟩ | intro _))
  all_goals first | omega | exact q0 (by omega) | exact q1 (by omega)
theorem r_7 {m : ST} {QR : ST → Prop} {k : Nat} (h4 : m.1 139 4 = 0) (h32 : m.1 139 32 = k) : (k = 0 → QR m) → (0 < k → C_X11_endsPlace m (fun s1 v1 => (v1 = 0 ∨ v1 = 1) → K_X11_readE_7 s1 v1 QR)) → K_X11_readE_7 m 0 QR := by
  intro a b
  have k25 : 0 < k → K_X11_readE_25 m 0 QR := fun hk => s_X11_readE_25 fun _ _ => ⟨fun _ => b hk, fun e => absurd rfl e⟩
  refine s_X11_readE_7 ?_
  rw [h32]
  (repeat' (with_reducible first | refine ⟨?_, ?_⟩ | intro _))
  all_goals first | exact absurd h4 (by assumption) | exact a (by omega) | exact k25 (by omega) | omega
theorem r_7e {m : ST} {QR : ST → Prop} {v : Int} (h4 : m.1 139 4 ≠ 0) (h : QR m) : K_X11_readE_7 m v QR := by
  refine s_X11_readE_7 ?_
  (repeat' (with_reducible first | refine ⟨?_, ?_⟩ | intro _))
  all_goals first | exact h | exact absurd (by assumption) h4
theorem r_7b {m : ST} {QR : ST → Prop} (h4 : m.1 139 4 = 0) (h : C_X11_beginsPlace m (fun s2 v2 => (v2 = 0 ∨ v2 = 1) → K_X11_readE_7 s2 v2 QR)) : K_X11_readE_7 m 1 QR := by
  have k25 : K_X11_readE_25 m 1 QR := s_X11_readE_25 fun _ _ => ⟨fun e => absurd e (by decide), fun _ => h⟩
  refine s_X11_readE_7 ?_
  (repeat' (with_reducible first | refine ⟨?_, ?_⟩ | intro _))
  all_goals first | exact absurd h4 (by assumption) | exact k25 | omega
def WOUT (s0 x0 x : ST) (st : Int → Int) (n R : Int) (nD : Nat) (Q : ST → Int → Prop) : Prop :=
  (∀ x', md xtF [] x x' → CSI s0 x' 0 st n R nD → R < n → (∀ m0 b QR, BEGR x0 m0 b 0 (fun _ => 0) R R nD → (∀ m, RM b m0 m → BEGR x' m b 0 st n R nD → ben m b R = n - 1 → QR m) → K_X11_readE_7 m0 1 QR) → Q x' (-1)) ∧
  (∀ (k' : Nat) x', md xtF [] x x' → CSI s0 x' (k' + 1) st n R nD → SRT x' (k' + 1) st → x'.1 48 (st k') < ar (x'.1 21 (st k')) → (∀ m0 b QR, BEGR x0 m0 b 0 (fun _ => 0) R R nD → (∀ m, RM b m0 m → BEGR x' m b (k' + 1) st n R nD → K_X11_readE_7 m 1 QR) → K_X11_readE_7 m0 1 QR) → Q x' (st k')) ∧
  (∀ x', md xmF [] x x' → KZ s0 x' → PT x' → x'.1 46 0 ≠ 0 → (∀ m0 b QR, BEGR x0 m0 b 0 (fun _ => 0) R R nD → (∀ m, RM b m0 m → m.1 143 b = nD → ERR x' m → QR m) → K_X11_readE_7 m0 1 QR) → Q x' (-1))
theorem BEGR.keepx {x x' m : ST} {b : Int} {k : Nat} (h : BEGR x m b k st n R nD) (mx : md xtF [] x x') {m' : ST} (mm : md gF [] m m') (rd : RDC m') (tx : TXR x' m') (tk : TKR x' m') : BEGR x' m' b k st n R nD := by
  have e := md46 mx (by decide)
  obtain ⟨h1, ⟨h2, h3, h4, h5, h6⟩, h7, h8, h9, h10, h11, h12⟩ := h
  refine ⟨h1.go mx mm rd tx tk, ⟨h2, (mm.f 139 29 (by decide) (by decide)).trans h3, (mm.f 139 32 (by decide) (by decide)).trans h4, (mm.c 142 (by decide) (by decide) b).trans h5, (mm.c 143 (by decide) (by decide) b).trans h6⟩, ?_, ?_, fun p p0 p1 => ?_, fun d d0 d1 => ?_, fun p j p0 p1 j0 hj => ?_, fun i i0 i1 => ?_⟩
  · rw [(e 18 (by decide) 2).1, mm.c 144 (by decide) (by decide)]; exact h7
  · rw [mm.c 144 (by decide) (by decide)]; exact h8.keep mm (by decide) (by decide)
  · rw [(e 21 (by decide) p).1, (e 28 (by decide) p).2, (e 29 (by decide) p).1, mm.c 146 (by decide) (by decide), mm.cj 158 (by decide) (by decide), mm.c 153 (by decide) (by decide)]; exact h9 p p0 p1
  · rw [(e 19 (by decide) d).2, (e 20 (by decide) d).1, mm.cj 157 (by decide) (by decide), mm.c 145 (by decide) (by decide)]; exact h10 d d0 d1
  · have e59 : ∀ i, m'.1 159 i = m.1 159 i := fun i => mm.c 159 (by decide) (by decide) i
    rw [(e 27 (by decide) _).1, mm.c 152 (by decide) (by decide)]
    refine h11 p j p0 p1 j0 ?_
    rcases hj with ⟨ho, hj⟩ | ⟨i, hi, e9, hj⟩
    · left
      refine ⟨fun ⟨i, hi, ee⟩ => ho ⟨i, hi, (e59 i).trans ee⟩, ?_⟩
      rw [mm.c 146 (by decide) (by decide)] at hj; exact hj
    · rw [mm.c 160 (by decide) (by decide)] at hj
      exact Or.inr ⟨i, hi, (e59 i).symm.trans e9, hj⟩
  · rw [(e 48 (by decide) _).1, mm.c 159 (by decide) (by decide), mm.c 160 (by decide) (by decide)]; exact h12 i i0 i1
theorem CSI.keepx {x x' : ST} {k : Nat} (h : CSI s0 x k st n R nD) (mx : md xtF [] x x') (kz : KZ s0 x') (px : PT x') : CSI s0 x' k st n R nD := by
  have e := md46 mx (by decide)
  obtain ⟨⟨_, _, h1⟩, h2, h3, h4, ⟨h5, h6⟩, h7⟩ := h
  refine ⟨⟨kz, px, (mx.f 46 0 (by decide) (by decide)).trans h1⟩, by rw [(e 18 (by decide) 1).1]; exact h2, by rw [(e 18 (by decide) 0).1]; exact h3, by rw [(e 18 (by decide) 2).1]; exact h4, ⟨h5, fun i i0 i1 => ?_⟩, by rw [(e 20 (by decide) _).1]; exact h7⟩
  have f26 : ∀ z, x'.1 26 z = x.1 26 z := fun z => (e 26 (by decide) z).1
  have f27 : ∀ z, x'.1 27 z = x.1 27 z := fun z => (e 27 (by decide) z).1
  have f48 : ∀ z, x'.1 48 z = x.1 48 z := fun z => (e 48 (by decide) z).1
  have f49 : ∀ z, x'.1 49 z = x.1 49 z := fun z => (e 49 (by decide) z).1
  simp only [f26, f27, f48, f49]
  exact h6 i i0 i1
end WAIT
