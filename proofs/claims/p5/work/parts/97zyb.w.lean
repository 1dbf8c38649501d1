/-! READING ALIKE: tokens, refusals and bound names, side by side -/
theorem IX46 {s s' : ST} (h : IX s) (e : ∀ c, c ≠ 46 → s'.1 c = s.1 c) : IX s' := by
  unfold IX KI AK ZX at *
  rw [e 17 (by decide), e 38 (by decide), e 39 (by decide), e 51 (by decide), e 59 (by decide), e 0 (by decide), e (51 + 3) (by decide), e (51 + 4) (by decide), e (59 + 3) (by decide), e (59 + 4) (by decide), e 49 (by decide), e 2 (by decide), e 18 (by decide), e 94 (by decide), e 109 (by decide), e 124 (by decide)]
  exact h
def KZ (s0 s : ST) : Prop := IX s ∧ s.1 0 1 = s0.1 0 1 ∧ s.1 0 2 = s0.1 0 2 ∧ s.1 1 = s0.1 1 ∧ W47 s
theorem KZ.kx {s0 s s' : ST} (h : KZ s0 s) (k : KX s s') : KZ s0 s' :=
  ⟨k.1, k.2.1.trans h.2.1, k.2.2.1.trans h.2.2.1, k.2.2.2.1.trans h.2.2.2.1, fun j hj => by rw [k.2.2.2.2.2]; exact h.2.2.2.2 j hj⟩
theorem md46 {fs : List (Nat × Int)} {s s' : ST} (hm : md fs [] s s') (h1 : (fs.all fun q => decide (q.1 = 46)) = true) (c : Nat) (hc : c ≠ 46) (z : Int) : s'.1 c z = s.1 c z ∧ s'.2 c z = s.2 c z :=
  hm c z (fun q => hc (of_decide_eq_true (List.all_eq_true.mp h1 _ q))) (fun q => by cases q)
theorem KZ.m46 {fs : List (Nat × Int)} {s0 s s' : ST} (h : KZ s0 s) (hm : md fs [] s s') (h1 : (fs.all fun q => decide (q.1 = 46)) = true) : KZ s0 s' := by
  have e := md46 hm h1
  exact ⟨IX46 h.1 fun c hc => funext fun z => (e c hc z).1, by rw [(e 0 (by decide) 1).1]; exact h.2.1, by rw [(e 0 (by decide) 2).1]; exact h.2.2.1, (funext fun z => (e 1 (by decide) z).1).trans h.2.2.2.1, fun j hj => by rw [(e 47 (by decide) _).2]; exact h.2.2.2.2 j hj⟩
def ERR (x m : ST) : Prop := x.1 46 0 ≠ 0 ∧ m.1 139 4 = x.1 46 0 ∧ m.1 139 5 = x.1 46 1
def OKR (x m : ST) : Prop := TXR x m ∧ RDC m ∧ TKR x m ∧ m.1 139 4 = 0 ∧ x.1 46 0 = 0
def FIS (x : ST) (c : Int) : ST := ui (ui x 46 0 c) 46 1 (x.1 46 6)
def xfF : List (Nat × Int) := [(46, 0), (46, 1)]
def xmF : List (Nat × Int) := xfF ++ xtF
theorem FIS_md {x : ST} {c : Int} : md xfF [] x (FIS x c) := by unfold FIS; exact (by repeat' (first | exact md.rf | assumption | refine md.ui ?_ ?_ | refine md.uj ?_ ?_ | exact Or.inr (by decide) | exact Or.inl (by decide)))
theorem FIS_0 {x : ST} {c : Int} : (FIS x c).1 46 0 = c := by unfold FIS; rw [ui_ne (by decide), ui_same]
theorem FIS_1 {x : ST} {c : Int} : (FIS x c).1 46 1 = x.1 46 6 := by unfold FIS; rw [ui_same]
section SIDE
variable {s0 x : ST}
theorem TXR.keep {m : ST} {x' m' : ST} (h : TXR x m) (e3 : x'.1 46 3 = x.1 46 3) (e1 : x'.1 1 = x.1 1) (f3 : m'.1 139 3 = m.1 139 3) (f1 : m'.1 141 = m.1 141) (e5 : x'.1 46 1 = x.1 46 1) (f5 : m'.1 139 5 = m.1 139 5) : TXR x' m' := by
  unfold TXR at *; rw [e3, e1, f3, f1, e5, f5]; exact h
theorem m_token {Q : ST → Prop} (k : KZ s0 x) (h : TPO x) (hQ : ∀ x', md xtF [] x x' → KZ s0 x' → PT x' → (∀ m QR, TXR x m → (0 ≤ m.1 139 7 ∧ m.1 139 7 ≤ m.1 139 3) → x.1 46 4 = m.1 139 7 → (∀ m', md gF [] m m' → RDC m' → TXR x' m' → TKR x' m' → QR m') → C_X11_goOn m QR) → Q x') : C_X7_readToken x Q := by
  refine e_X7_readToken h fun x' mx px tx => ?_
  have kz := k.m46 mx (by decide)
  refine hQ x' mx kz px fun m QR ht h7 h4 hm => e_X11_goOn ht.2.1 h7 fun m' mm rd rt => ?_
  refine hm m' mm rd (ht.keep (mx.f 46 3 (by decide) (by decide)) (funext (mx.c 1 (by decide) (by decide))) (mm.f 139 3 (by decide) (by decide)) (funext (mm.c 141 (by decide) (by decide))) (mx.f 46 1 (by decide) (by decide)) (mm.f 139 5 (by decide) (by decide))) ?_
  rw [← h4] at rt
  exact tok_alike (fun p hp => ht.sg hp) h.1 kz.2.2.2.2 tx rt
theorem m_fails {m : ST} {c : Int} (hc : c ≠ 0) {QR : ST → Prop} (h6 : x.1 46 6 = m.1 139 6) (h4 : m.1 139 4 = 0) (hm : ∀ m', md [(139, 4), (139, 5)] [] m m' → ERR (FIS x c) m' → QR m') : C_X11_fails m c (m.1 139 6) QR := by
  refine s_X11_fails ?_
  (repeat' (with_reducible first | refine ⟨?_, ?_⟩ | intro _))
  all_goals first | omega | skip
  refine hm _ (by repeat' (first | exact md.rf | assumption | refine md.ui ?_ ?_ | refine md.uj ?_ ?_ | exact Or.inr (by decide) | exact Or.inl (by decide))) ⟨by rw [FIS_0]; exact hc, by rw [FIS_0, ui_ne (by decide), ui_same], by rw [FIS_1, ui_same, h6]⟩
theorem m_misplaced {m : ST} {QR : ST → Prop} (ht : TKR x m) (h4 : m.1 139 4 = 0) (hm : ∀ m', md [(139, 4), (139, 5)] [] m m' → ERR (FIS x (if x.1 46 5 = 4 then 1 else 2)) m' → QR m') : C_X11_misplaced m QR := by
  have h6 := ht.1
  have h8 : x.1 46 5 = 4 ↔ m.1 139 8 = 1 := by
    rcases ht.2.2 with h | h | h | h | h | ⟨h, k, hk, h9, h8, _⟩ <;> omega
  have k14 : ∀ t1, t1 = (if x.1 46 5 = 4 then (1 : Int) else 2) → K_X11_misplaced_14 m t1 QR := by
    intro t1 e
    refine s_X11_misplaced_14 ?_
    (repeat' (with_reducible first | refine ⟨?_, ?_⟩ | intro _))
    subst e
    exact m_fails (by split <;> omega) h6 h4 hm
  refine s_X11_misplaced ?_
  (repeat' (with_reducible first | refine ⟨?_, ?_⟩ | intro _))
  · exact k14 _ (by rw [if_neg (by omega)])
  · exact k14 _ (by rw [if_pos (by omega)])
theorem m_refuse {Q : ST → Prop} (hQ : Q (FIS x (if x.1 46 5 = 4 then 1 else 2))) : C_X7_refuseToken x Q := by
  have k14 : ∀ t1, t1 = (if x.1 46 5 = 4 then (1 : Int) else 2) → K_X7_refuseToken_14 x t1 Q := by
    intro t1 e
    refine s_X7_refuseToken_14 ?_
    (repeat' (with_reducible first | refine ⟨?_, ?_⟩ | intro _))
    refine s_X7_faultIs ?_
    (repeat' (with_reducible first | refine ⟨?_, ?_⟩ | intro _))
    subst e
    exact hQ
  refine s_X7_refuseToken ?_
  (repeat' (with_reducible first | refine ⟨?_, ?_⟩ | intro _))
  · exact k14 _ (by rw [if_neg (by omega)])
  · exact k14 _ (by rw [if_pos (by omega)])
theorem x_fault {c : Int} {Q : ST → Prop} (hQ : Q (FIS x c)) : C_X7_faultIs x c Q := by
  refine s_X7_faultIs ?_
  (repeat' (with_reducible first | refine ⟨?_, ?_⟩ | intro _))
  exact hQ
theorem m_must {m : ST} {p : Int} {QR : ST → Prop} (h4 : m.1 139 4 = 0) (h1 : p ≠ 0 → C_X11_goOn m QR) (h0 : p = 0 → C_X11_misplaced m QR) : C_X11_must m p QR := by
  refine s_X11_must ?_
  (repeat' (with_reducible first | refine ⟨?_, ?_⟩ | intro _))
  all_goals first | exact h0 (by omega) | exact h1 (by omega) | omega
theorem OKR.tok {m : ST} (h : OKR x m) : (x.1 46 5 = 3 ↔ m.1 139 8 = 5) ∧ ((x.1 46 5 = 1 ∧ x.1 46 9 = -1) ↔ m.1 139 8 = 2) ∧ ((x.1 46 5 = 1 ∧ x.1 46 9 = -1) → WR (x.2 46 7) (m.2 139 10)) ∧ (x.1 46 5 = 0 ↔ m.1 139 8 = 0) := by
  obtain ⟨_, _, ⟨_, _, ht⟩, _⟩ := h
  rcases ht with h | h | h | h | ⟨h1, h2, h3, h4⟩ | ⟨h1, k, hk, h9, h8, h10, h11⟩
  · exact ⟨by omega, by omega, fun a => by omega, by omega⟩
  · exact ⟨by omega, by omega, fun a => by omega, by omega⟩
  · exact ⟨by omega, by omega, fun a => by omega, by omega⟩
  · exact ⟨by omega, by omega, fun a => by omega, by omega⟩
  · exact ⟨by omega, by omega, fun _ => h4, by omega⟩
  · exact ⟨by omega, by omega, fun a => by omega, by omega⟩
theorem OKR.go {m : ST} {x' m' : ST} (h : OKR x m) (mx : md xtF [] x x') (mm : md gF [] m m') (rd : RDC m') (tx : TXR x' m') (tk : TKR x' m') : OKR x' m' :=
  ⟨tx, rd, tk, by rw [mm.f 139 4 (by decide) (by decide)]; exact h.2.2.2.1, by rw [mx.f 46 0 (by decide) (by decide)]; exact h.2.2.2.2⟩
theorem m_sign {Q : ST → Prop} (k : KZ s0 x) (hp : PT x) (h0 : x.1 46 0 = 0) (hQ : ∀ x', md xmF [] x x' → KZ s0 x' → PT x' → (∀ m QR t, OKR x m → (t ≠ 0 ↔ m.1 139 8 = 5) → (∀ m', md mF [] m m' → (ERR x' m' ∨ OKR x' m') → QR m') → C_X11_must m t QR) → Q x') : C_X7_readSign x Q := by
  refine s_X7_readSign ?_
  refine fun _ => ⟨fun _ => ⟨fun h5 => ?_, fun h5 => ?_⟩, fun h => absurd h0 h⟩
  · refine m_refuse (hQ _ (FIS_md.mono (by decide) (by decide)) (k.m46 FIS_md (by decide)) hp fun m QR t ho ht hm => ?_)
    have e := ho.tok.1
    refine m_must ho.2.2.2.1 (fun h => absurd (e.mpr (ht.mp h)) h5) (fun _ => ?_)
    exact m_misplaced ho.2.2.1 ho.2.2.2.1 fun m' mm er => hm m' (mm.mono (by decide) (by decide)) (Or.inl er)
  · have h5' : x.1 46 5 = 3 := by omega
    refine m_token k hp.1 fun x' mx kz px sim => hQ x' (mx.mono (by decide) (by decide)) kz px fun m QR t ho ht hm => ?_
    have e := ho.tok.1
    refine m_must ho.2.2.2.1 (fun _ => ?_) (fun h => absurd h (ht.mpr (e.mp h5')))
    exact sim m QR ho.1 ho.2.1.2.2 ho.2.2.1.2.1 fun m' mm rd tx tk => hm m' (mm.mono (by decide) (by decide)) (Or.inr (ho.go mx mm rd tx tk))
end SIDE
